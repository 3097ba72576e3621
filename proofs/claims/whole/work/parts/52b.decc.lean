theorem d_L_law_858 : decode code 858 = .ok (.iconst 0, 1) := by decide +kernel
theorem d_L_law_860 : decode code 860 = .ok (.aload_n 1, 1) := by decide +kernel
theorem d_L_law_861 : decode code 861 = .ok (.aload_n 0, 1) := by decide +kernel
theorem d_L_law_862 : decode code 862 = .ok (.iload_n 3, 1) := by decide +kernel
theorem d_L_law_863 : decode code 863 = .ok (.iconst 1, 1) := by decide +kernel
theorem d_L_law_864 : decode code 864 = .ok (.iadd, 1) := by decide +kernel
theorem d_L_law_865 : decode code 865 = .ok (.iaload, 1) := by decide +kernel
theorem d_L_law_866 : decode code 866 = .ok (.aload_n 0, 1) := by decide +kernel
theorem d_L_law_867 : decode code 867 = .ok (.iload_n 3, 1) := by decide +kernel
theorem d_L_law_868 : decode code 868 = .ok (.iconst 2, 1) := by decide +kernel
theorem d_L_law_869 : decode code 869 = .ok (.iadd, 1) := by decide +kernel
theorem d_L_law_870 : decode code 870 = .ok (.iaload, 1) := by decide +kernel
theorem d_L_law_871 : decode code 871 = .ok (.invokevirtual 97, 3) := by decide +kernel
theorem d_L_law_874 : decode code 874 = .ok (.aload_n 2, 1) := by decide +kernel
theorem d_L_law_875 : decode code 875 = .ok (.aload_n 0, 1) := by decide +kernel
theorem d_L_law_876 : decode code 876 = .ok (.iload_n 3, 1) := by decide +kernel
theorem d_L_law_877 : decode code 877 = .ok (.iconst 1, 1) := by decide +kernel
theorem d_L_law_878 : decode code 878 = .ok (.iadd, 1) := by decide +kernel
theorem d_L_law_879 : decode code 879 = .ok (.iaload, 1) := by decide +kernel
theorem d_L_law_880 : decode code 880 = .ok (.aload_n 0, 1) := by decide +kernel
theorem d_L_law_881 : decode code 881 = .ok (.iload_n 3, 1) := by decide +kernel
theorem d_L_law_882 : decode code 882 = .ok (.iconst 2, 1) := by decide +kernel
theorem d_L_law_883 : decode code 883 = .ok (.iadd, 1) := by decide +kernel
theorem d_L_law_884 : decode code 884 = .ok (.iaload, 1) := by decide +kernel
theorem d_L_law_885 : decode code 885 = .ok (.invokevirtual 100, 3) := by decide +kernel
theorem d_L_law_888 : decode code 888 = .ok (.if_icmp .eq 642, 3) := by decide +kernel
theorem d_L_law_891 : decode code 891 = .ok (.iconst 0, 1) := by decide +kernel
theorem d_L_law_893 : decode code 893 = .ok (.aload_n 1, 1) := by decide +kernel
theorem d_L_law_894 : decode code 894 = .ok (.aload_n 0, 1) := by decide +kernel
theorem d_L_law_895 : decode code 895 = .ok (.iload_n 3, 1) := by decide +kernel
theorem d_L_law_896 : decode code 896 = .ok (.iconst 1, 1) := by decide +kernel
theorem d_L_law_897 : decode code 897 = .ok (.iadd, 1) := by decide +kernel
theorem d_L_law_898 : decode code 898 = .ok (.iaload, 1) := by decide +kernel
theorem d_L_law_899 : decode code 899 = .ok (.aload_n 0, 1) := by decide +kernel
theorem d_L_law_900 : decode code 900 = .ok (.iload_n 3, 1) := by decide +kernel
theorem d_L_law_901 : decode code 901 = .ok (.iconst 2, 1) := by decide +kernel
theorem d_L_law_902 : decode code 902 = .ok (.iadd, 1) := by decide +kernel
theorem d_L_law_903 : decode code 903 = .ok (.iaload, 1) := by decide +kernel
theorem d_L_law_904 : decode code 904 = .ok (.invokevirtual 101, 3) := by decide +kernel
theorem d_L_law_907 : decode code 907 = .ok (.aload_n 2, 1) := by decide +kernel
theorem d_L_law_908 : decode code 908 = .ok (.aload_n 0, 1) := by decide +kernel
theorem d_L_law_909 : decode code 909 = .ok (.iload_n 3, 1) := by decide +kernel
theorem d_L_law_910 : decode code 910 = .ok (.iconst 1, 1) := by decide +kernel
theorem d_L_law_911 : decode code 911 = .ok (.iadd, 1) := by decide +kernel
theorem d_L_law_912 : decode code 912 = .ok (.iaload, 1) := by decide +kernel
theorem d_L_law_913 : decode code 913 = .ok (.aload_n 0, 1) := by decide +kernel
theorem d_L_law_914 : decode code 914 = .ok (.iload_n 3, 1) := by decide +kernel
theorem d_L_law_915 : decode code 915 = .ok (.iconst 2, 1) := by decide +kernel
theorem d_L_law_916 : decode code 916 = .ok (.iadd, 1) := by decide +kernel
theorem d_L_law_917 : decode code 917 = .ok (.iaload, 1) := by decide +kernel
theorem d_L_law_918 : decode code 918 = .ok (.invokevirtual 104, 3) := by decide +kernel
theorem d_L_law_921 : decode code 921 = .ok (.if_icmp .eq 609, 3) := by decide +kernel
theorem d_L_law_924 : decode code 924 = .ok (.iconst 0, 1) := by decide +kernel
theorem d_L_law_926 : decode code 926 = .ok (.aload_n 1, 1) := by decide +kernel
theorem d_L_law_927 : decode code 927 = .ok (.aload_n 0, 1) := by decide +kernel
theorem d_L_law_928 : decode code 928 = .ok (.iload_n 3, 1) := by decide +kernel
theorem d_L_law_929 : decode code 929 = .ok (.iconst 1, 1) := by decide +kernel
theorem d_L_law_930 : decode code 930 = .ok (.iadd, 1) := by decide +kernel
theorem d_L_law_931 : decode code 931 = .ok (.iaload, 1) := by decide +kernel
theorem d_L_law_932 : decode code 932 = .ok (.aload_n 0, 1) := by decide +kernel
theorem d_L_law_933 : decode code 933 = .ok (.iload_n 3, 1) := by decide +kernel
theorem d_L_law_934 : decode code 934 = .ok (.iconst 2, 1) := by decide +kernel
theorem d_L_law_935 : decode code 935 = .ok (.iadd, 1) := by decide +kernel
theorem d_L_law_936 : decode code 936 = .ok (.iaload, 1) := by decide +kernel
theorem d_L_law_937 : decode code 937 = .ok (.invokevirtual 105, 3) := by decide +kernel
theorem d_L_law_940 : decode code 940 = .ok (.aload_n 2, 1) := by decide +kernel
theorem d_L_law_941 : decode code 941 = .ok (.aload_n 0, 1) := by decide +kernel
theorem d_L_law_942 : decode code 942 = .ok (.iload_n 3, 1) := by decide +kernel
theorem d_L_law_943 : decode code 943 = .ok (.iconst 1, 1) := by decide +kernel
theorem d_L_law_944 : decode code 944 = .ok (.iadd, 1) := by decide +kernel
theorem d_L_law_945 : decode code 945 = .ok (.iaload, 1) := by decide +kernel
theorem d_L_law_946 : decode code 946 = .ok (.aload_n 0, 1) := by decide +kernel
theorem d_L_law_947 : decode code 947 = .ok (.iload_n 3, 1) := by decide +kernel
theorem d_L_law_948 : decode code 948 = .ok (.iconst 2, 1) := by decide +kernel
theorem d_L_law_949 : decode code 949 = .ok (.iadd, 1) := by decide +kernel
theorem d_L_law_950 : decode code 950 = .ok (.iaload, 1) := by decide +kernel
theorem d_L_law_951 : decode code 951 = .ok (.invokevirtual 108, 3) := by decide +kernel
theorem d_L_law_954 : decode code 954 = .ok (.if_icmp .eq 576, 3) := by decide +kernel
theorem d_L_law_957 : decode code 957 = .ok (.iconst 0, 1) := by decide +kernel
theorem d_L_law_959 : decode code 959 = .ok (.aload_n 1, 1) := by decide +kernel
theorem d_L_law_960 : decode code 960 = .ok (.aload_n 0, 1) := by decide +kernel
theorem d_L_law_961 : decode code 961 = .ok (.iload_n 3, 1) := by decide +kernel
theorem d_L_law_962 : decode code 962 = .ok (.iconst 1, 1) := by decide +kernel
theorem d_L_law_963 : decode code 963 = .ok (.iadd, 1) := by decide +kernel
theorem d_L_law_964 : decode code 964 = .ok (.iaload, 1) := by decide +kernel
theorem d_L_law_965 : decode code 965 = .ok (.aload_n 0, 1) := by decide +kernel
theorem d_L_law_966 : decode code 966 = .ok (.iload_n 3, 1) := by decide +kernel
theorem d_L_law_967 : decode code 967 = .ok (.iconst 2, 1) := by decide +kernel
theorem d_L_law_968 : decode code 968 = .ok (.iadd, 1) := by decide +kernel
theorem d_L_law_969 : decode code 969 = .ok (.iaload, 1) := by decide +kernel
theorem d_L_law_970 : decode code 970 = .ok (.invokevirtual 109, 3) := by decide +kernel
theorem d_L_law_973 : decode code 973 = .ok (.aload_n 2, 1) := by decide +kernel
theorem d_L_law_974 : decode code 974 = .ok (.aload_n 0, 1) := by decide +kernel
theorem d_L_law_975 : decode code 975 = .ok (.iload_n 3, 1) := by decide +kernel
theorem d_L_law_976 : decode code 976 = .ok (.iconst 1, 1) := by decide +kernel
theorem d_L_law_977 : decode code 977 = .ok (.iadd, 1) := by decide +kernel
theorem d_L_law_978 : decode code 978 = .ok (.iaload, 1) := by decide +kernel
theorem d_L_law_979 : decode code 979 = .ok (.aload_n 0, 1) := by decide +kernel
theorem d_L_law_980 : decode code 980 = .ok (.iload_n 3, 1) := by decide +kernel
theorem d_L_law_981 : decode code 981 = .ok (.iconst 2, 1) := by decide +kernel
theorem d_L_law_982 : decode code 982 = .ok (.iadd, 1) := by decide +kernel
theorem d_L_law_983 : decode code 983 = .ok (.iaload, 1) := by decide +kernel
theorem d_L_law_984 : decode code 984 = .ok (.invokevirtual 112, 3) := by decide +kernel
theorem d_L_law_987 : decode code 987 = .ok (.if_icmp .eq 543, 3) := by decide +kernel
theorem d_L_law_990 : decode code 990 = .ok (.iconst 0, 1) := by decide +kernel
theorem d_L_law_992 : decode code 992 = .ok (.aload_n 1, 1) := by decide +kernel
theorem d_L_law_993 : decode code 993 = .ok (.aload_n 0, 1) := by decide +kernel
theorem d_L_law_994 : decode code 994 = .ok (.iload_n 3, 1) := by decide +kernel
theorem d_L_law_995 : decode code 995 = .ok (.iconst 1, 1) := by decide +kernel
theorem d_L_law_996 : decode code 996 = .ok (.iadd, 1) := by decide +kernel
theorem d_L_law_997 : decode code 997 = .ok (.iaload, 1) := by decide +kernel
theorem d_L_law_998 : decode code 998 = .ok (.aload_n 0, 1) := by decide +kernel
theorem d_L_law_999 : decode code 999 = .ok (.iload_n 3, 1) := by decide +kernel
theorem d_L_law_1000 : decode code 1000 = .ok (.iconst 2, 1) := by decide +kernel
theorem d_L_law_1001 : decode code 1001 = .ok (.iadd, 1) := by decide +kernel
theorem d_L_law_1002 : decode code 1002 = .ok (.iaload, 1) := by decide +kernel
theorem d_L_law_1003 : decode code 1003 = .ok (.invokevirtual 113, 3) := by decide +kernel
theorem d_L_law_1006 : decode code 1006 = .ok (.aload_n 2, 1) := by decide +kernel
theorem d_L_law_1007 : decode code 1007 = .ok (.aload_n 0, 1) := by decide +kernel
theorem d_L_law_1008 : decode code 1008 = .ok (.iload_n 3, 1) := by decide +kernel
theorem d_L_law_1009 : decode code 1009 = .ok (.iconst 1, 1) := by decide +kernel
theorem d_L_law_1010 : decode code 1010 = .ok (.iadd, 1) := by decide +kernel
theorem d_L_law_1011 : decode code 1011 = .ok (.iaload, 1) := by decide +kernel
theorem d_L_law_1012 : decode code 1012 = .ok (.aload_n 0, 1) := by decide +kernel
theorem d_L_law_1013 : decode code 1013 = .ok (.iload_n 3, 1) := by decide +kernel
theorem d_L_law_1014 : decode code 1014 = .ok (.iconst 2, 1) := by decide +kernel
theorem d_L_law_1015 : decode code 1015 = .ok (.iadd, 1) := by decide +kernel
theorem d_L_law_1016 : decode code 1016 = .ok (.iaload, 1) := by decide +kernel
theorem d_L_law_1017 : decode code 1017 = .ok (.invokevirtual 116, 3) := by decide +kernel
theorem d_L_law_1020 : decode code 1020 = .ok (.if_icmp .eq 510, 3) := by decide +kernel
theorem d_L_law_1023 : decode code 1023 = .ok (.iconst 0, 1) := by decide +kernel
theorem d_L_law_1025 : decode code 1025 = .ok (.aload_n 1, 1) := by decide +kernel
theorem d_L_law_1026 : decode code 1026 = .ok (.aload_n 0, 1) := by decide +kernel
theorem d_L_law_1027 : decode code 1027 = .ok (.iload_n 3, 1) := by decide +kernel
theorem d_L_law_1028 : decode code 1028 = .ok (.iconst 1, 1) := by decide +kernel
theorem d_L_law_1029 : decode code 1029 = .ok (.iadd, 1) := by decide +kernel
theorem d_L_law_1030 : decode code 1030 = .ok (.iaload, 1) := by decide +kernel
theorem d_L_law_1031 : decode code 1031 = .ok (.invokevirtual 117, 3) := by decide +kernel
theorem d_L_law_1034 : decode code 1034 = .ok (.aload_n 2, 1) := by decide +kernel
theorem d_L_law_1035 : decode code 1035 = .ok (.aload_n 0, 1) := by decide +kernel
theorem d_L_law_1036 : decode code 1036 = .ok (.iload_n 3, 1) := by decide +kernel
theorem d_L_law_1037 : decode code 1037 = .ok (.iconst 1, 1) := by decide +kernel
theorem d_L_law_1038 : decode code 1038 = .ok (.iadd, 1) := by decide +kernel
theorem d_L_law_1039 : decode code 1039 = .ok (.iaload, 1) := by decide +kernel
theorem d_L_law_1040 : decode code 1040 = .ok (.invokevirtual 120, 3) := by decide +kernel
theorem d_L_law_1043 : decode code 1043 = .ok (.if_icmp .eq 487, 3) := by decide +kernel
theorem d_L_law_1046 : decode code 1046 = .ok (.iconst 0, 1) := by decide +kernel
theorem d_L_law_1048 : decode code 1048 = .ok (.aload_n 1, 1) := by decide +kernel
theorem d_L_law_1049 : decode code 1049 = .ok (.aload_n 0, 1) := by decide +kernel
theorem d_L_law_1050 : decode code 1050 = .ok (.iload_n 3, 1) := by decide +kernel
theorem d_L_law_1051 : decode code 1051 = .ok (.iconst 1, 1) := by decide +kernel
theorem d_L_law_1052 : decode code 1052 = .ok (.iadd, 1) := by decide +kernel
theorem d_L_law_1053 : decode code 1053 = .ok (.iaload, 1) := by decide +kernel
theorem d_L_law_1054 : decode code 1054 = .ok (.aload_n 0, 1) := by decide +kernel
theorem d_L_law_1055 : decode code 1055 = .ok (.iload_n 3, 1) := by decide +kernel
theorem d_L_law_1056 : decode code 1056 = .ok (.iconst 2, 1) := by decide +kernel
theorem d_L_law_1057 : decode code 1057 = .ok (.iadd, 1) := by decide +kernel
theorem d_L_law_1058 : decode code 1058 = .ok (.iaload, 1) := by decide +kernel
theorem d_L_law_1059 : decode code 1059 = .ok (.aload_n 0, 1) := by decide +kernel
theorem d_L_law_1060 : decode code 1060 = .ok (.iload_n 3, 1) := by decide +kernel
theorem d_L_law_1061 : decode code 1061 = .ok (.iconst 3, 1) := by decide +kernel
theorem d_L_law_1062 : decode code 1062 = .ok (.iadd, 1) := by decide +kernel
theorem d_L_law_1063 : decode code 1063 = .ok (.iaload, 1) := by decide +kernel
theorem d_L_law_1064 : decode code 1064 = .ok (.aload_n 0, 1) := by decide +kernel
theorem d_L_law_1065 : decode code 1065 = .ok (.iload_n 3, 1) := by decide +kernel
theorem d_L_law_1066 : decode code 1066 = .ok (.iconst 4, 1) := by decide +kernel
theorem d_L_law_1067 : decode code 1067 = .ok (.iadd, 1) := by decide +kernel
theorem d_L_law_1068 : decode code 1068 = .ok (.iaload, 1) := by decide +kernel
theorem d_L_law_1069 : decode code 1069 = .ok (.invokevirtual 121, 3) := by decide +kernel
theorem d_L_law_1072 : decode code 1072 = .ok (.aload_n 2, 1) := by decide +kernel
theorem d_L_law_1073 : decode code 1073 = .ok (.aload_n 0, 1) := by decide +kernel
theorem d_L_law_1074 : decode code 1074 = .ok (.iload_n 3, 1) := by decide +kernel
theorem d_L_law_1075 : decode code 1075 = .ok (.iconst 1, 1) := by decide +kernel
theorem d_L_law_1076 : decode code 1076 = .ok (.iadd, 1) := by decide +kernel
theorem d_L_law_1077 : decode code 1077 = .ok (.iaload, 1) := by decide +kernel
theorem d_L_law_1078 : decode code 1078 = .ok (.aload_n 0, 1) := by decide +kernel
theorem d_L_law_1079 : decode code 1079 = .ok (.iload_n 3, 1) := by decide +kernel
theorem d_L_law_1080 : decode code 1080 = .ok (.iconst 2, 1) := by decide +kernel
theorem d_L_law_1081 : decode code 1081 = .ok (.iadd, 1) := by decide +kernel
theorem d_L_law_1082 : decode code 1082 = .ok (.iaload, 1) := by decide +kernel
theorem d_L_law_1083 : decode code 1083 = .ok (.aload_n 0, 1) := by decide +kernel
theorem d_L_law_1084 : decode code 1084 = .ok (.iload_n 3, 1) := by decide +kernel
theorem d_L_law_1085 : decode code 1085 = .ok (.iconst 3, 1) := by decide +kernel
theorem d_L_law_1086 : decode code 1086 = .ok (.iadd, 1) := by decide +kernel
theorem d_L_law_1087 : decode code 1087 = .ok (.iaload, 1) := by decide +kernel
theorem d_L_law_1088 : decode code 1088 = .ok (.aload_n 0, 1) := by decide +kernel
theorem d_L_law_1089 : decode code 1089 = .ok (.iload_n 3, 1) := by decide +kernel
theorem d_L_law_1090 : decode code 1090 = .ok (.iconst 4, 1) := by decide +kernel
theorem d_L_law_1091 : decode code 1091 = .ok (.iadd, 1) := by decide +kernel
theorem d_L_law_1092 : decode code 1092 = .ok (.iaload, 1) := by decide +kernel
theorem d_L_law_1093 : decode code 1093 = .ok (.invokevirtual 125, 3) := by decide +kernel
theorem d_L_law_1096 : decode code 1096 = .ok (.lcmp, 1) := by decide +kernel
theorem d_L_law_1097 : decode code 1097 = .ok (.ifCond .eq 433, 3) := by decide +kernel
theorem d_L_law_1100 : decode code 1100 = .ok (.iconst 0, 1) := by decide +kernel
theorem d_L_law_1102 : decode code 1102 = .ok (.aload_n 1, 1) := by decide +kernel
theorem d_L_law_1103 : decode code 1103 = .ok (.aload_n 0, 1) := by decide +kernel
theorem d_L_law_1104 : decode code 1104 = .ok (.iload_n 3, 1) := by decide +kernel
theorem d_L_law_1105 : decode code 1105 = .ok (.iconst 1, 1) := by decide +kernel
theorem d_L_law_1106 : decode code 1106 = .ok (.iadd, 1) := by decide +kernel
theorem d_L_law_1107 : decode code 1107 = .ok (.iaload, 1) := by decide +kernel
theorem d_L_law_1108 : decode code 1108 = .ok (.invokevirtual 126, 3) := by decide +kernel
theorem d_L_law_1111 : decode code 1111 = .ok (.aload_n 2, 1) := by decide +kernel
theorem d_L_law_1112 : decode code 1112 = .ok (.aload_n 0, 1) := by decide +kernel
theorem d_L_law_1113 : decode code 1113 = .ok (.iload_n 3, 1) := by decide +kernel
theorem d_L_law_1114 : decode code 1114 = .ok (.iconst 1, 1) := by decide +kernel
theorem d_L_law_1115 : decode code 1115 = .ok (.iadd, 1) := by decide +kernel
theorem d_L_law_1116 : decode code 1116 = .ok (.iaload, 1) := by decide +kernel
theorem d_L_law_1117 : decode code 1117 = .ok (.invokevirtual 129, 3) := by decide +kernel
theorem d_L_law_1120 : decode code 1120 = .ok (.if_icmp .eq 410, 3) := by decide +kernel
theorem d_L_law_1123 : decode code 1123 = .ok (.iconst 0, 1) := by decide +kernel
theorem d_L_law_1125 : decode code 1125 = .ok (.aload_n 1, 1) := by decide +kernel
theorem d_L_law_1126 : decode code 1126 = .ok (.aload_n 0, 1) := by decide +kernel
theorem d_L_law_1127 : decode code 1127 = .ok (.iload_n 3, 1) := by decide +kernel
theorem d_L_law_1128 : decode code 1128 = .ok (.iconst 1, 1) := by decide +kernel
theorem d_L_law_1129 : decode code 1129 = .ok (.iadd, 1) := by decide +kernel
theorem d_L_law_1130 : decode code 1130 = .ok (.iaload, 1) := by decide +kernel
theorem d_L_law_1131 : decode code 1131 = .ok (.aload_n 0, 1) := by decide +kernel
theorem d_L_law_1132 : decode code 1132 = .ok (.iload_n 3, 1) := by decide +kernel
theorem d_L_law_1133 : decode code 1133 = .ok (.iconst 2, 1) := by decide +kernel
theorem d_L_law_1134 : decode code 1134 = .ok (.iadd, 1) := by decide +kernel
theorem d_L_law_1135 : decode code 1135 = .ok (.iaload, 1) := by decide +kernel
theorem d_L_law_1136 : decode code 1136 = .ok (.invokevirtual 130, 3) := by decide +kernel
theorem d_L_law_1139 : decode code 1139 = .ok (.aload_n 2, 1) := by decide +kernel
theorem d_L_law_1140 : decode code 1140 = .ok (.aload_n 0, 1) := by decide +kernel
theorem d_L_law_1141 : decode code 1141 = .ok (.iload_n 3, 1) := by decide +kernel
theorem d_L_law_1142 : decode code 1142 = .ok (.iconst 1, 1) := by decide +kernel
theorem d_L_law_1143 : decode code 1143 = .ok (.iadd, 1) := by decide +kernel
theorem d_L_law_1144 : decode code 1144 = .ok (.iaload, 1) := by decide +kernel
theorem d_L_law_1145 : decode code 1145 = .ok (.aload_n 0, 1) := by decide +kernel
theorem d_L_law_1146 : decode code 1146 = .ok (.iload_n 3, 1) := by decide +kernel
theorem d_L_law_1147 : decode code 1147 = .ok (.iconst 2, 1) := by decide +kernel
theorem d_L_law_1148 : decode code 1148 = .ok (.iadd, 1) := by decide +kernel
theorem d_L_law_1149 : decode code 1149 = .ok (.iaload, 1) := by decide +kernel
theorem d_L_law_1150 : decode code 1150 = .ok (.invokevirtual 133, 3) := by decide +kernel
theorem d_L_law_1153 : decode code 1153 = .ok (.if_icmp .eq 377, 3) := by decide +kernel
theorem d_L_law_1156 : decode code 1156 = .ok (.iconst 0, 1) := by decide +kernel
theorem d_L_law_1158 : decode code 1158 = .ok (.aload_n 1, 1) := by decide +kernel
theorem d_L_law_1159 : decode code 1159 = .ok (.invokevirtual 134, 3) := by decide +kernel
theorem d_L_law_1162 : decode code 1162 = .ok (.aload_n 2, 1) := by decide +kernel
theorem d_L_law_1163 : decode code 1163 = .ok (.invokevirtual 137, 3) := by decide +kernel
theorem d_L_law_1166 : decode code 1166 = .ok (.if_icmp .eq 364, 3) := by decide +kernel
theorem d_L_law_1169 : decode code 1169 = .ok (.iconst 0, 1) := by decide +kernel
theorem d_L_law_1171 : decode code 1171 = .ok (.aload_n 1, 1) := by decide +kernel
theorem d_L_law_1172 : decode code 1172 = .ok (.invokevirtual 138, 3) := by decide +kernel
theorem d_L_law_1175 : decode code 1175 = .ok (.aload_n 2, 1) := by decide +kernel
theorem d_L_law_1176 : decode code 1176 = .ok (.invokevirtual 141, 3) := by decide +kernel
theorem d_L_law_1179 : decode code 1179 = .ok (.if_icmp .eq 351, 3) := by decide +kernel
theorem d_L_law_1182 : decode code 1182 = .ok (.iconst 0, 1) := by decide +kernel
theorem d_L_law_1184 : decode code 1184 = .ok (.aload_n 1, 1) := by decide +kernel
theorem d_L_law_1185 : decode code 1185 = .ok (.aload_n 0, 1) := by decide +kernel
theorem d_L_law_1186 : decode code 1186 = .ok (.iload_n 3, 1) := by decide +kernel
theorem d_L_law_1187 : decode code 1187 = .ok (.iconst 1, 1) := by decide +kernel
theorem d_L_law_1188 : decode code 1188 = .ok (.iadd, 1) := by decide +kernel
theorem d_L_law_1189 : decode code 1189 = .ok (.iaload, 1) := by decide +kernel
theorem d_L_law_1190 : decode code 1190 = .ok (.aload_n 0, 1) := by decide +kernel
theorem d_L_law_1191 : decode code 1191 = .ok (.iload_n 3, 1) := by decide +kernel
theorem d_L_law_1192 : decode code 1192 = .ok (.iconst 2, 1) := by decide +kernel
theorem d_L_law_1193 : decode code 1193 = .ok (.iadd, 1) := by decide +kernel
