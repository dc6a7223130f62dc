theorem dL_law_830 : decode code 830 = .ok (.iload_n 3, 1) := by decide +kernel
theorem dL_law_831 : decode code 831 = .ok (.iconst 1, 1) := by decide +kernel
theorem dL_law_832 : decode code 832 = .ok (.iadd, 1) := by decide +kernel
theorem dL_law_833 : decode code 833 = .ok (.iaload, 1) := by decide +kernel
theorem dL_law_834 : decode code 834 = .ok (.aload_n 0, 1) := by decide +kernel
theorem dL_law_835 : decode code 835 = .ok (.iload_n 3, 1) := by decide +kernel
theorem dL_law_836 : decode code 836 = .ok (.iconst 2, 1) := by decide +kernel
theorem dL_law_837 : decode code 837 = .ok (.iadd, 1) := by decide +kernel
theorem dL_law_838 : decode code 838 = .ok (.iaload, 1) := by decide +kernel
theorem dL_law_839 : decode code 839 = .ok (.aload_n 0, 1) := by decide +kernel
theorem dL_law_840 : decode code 840 = .ok (.iload_n 3, 1) := by decide +kernel
theorem dL_law_841 : decode code 841 = .ok (.iconst 3, 1) := by decide +kernel
theorem dL_law_842 : decode code 842 = .ok (.iadd, 1) := by decide +kernel
theorem dL_law_843 : decode code 843 = .ok (.iaload, 1) := by decide +kernel
theorem dL_law_844 : decode code 844 = .ok (.invokevirtual 91, 3) := by decide +kernel
theorem dL_law_847 : decode code 847 = .ok (.aload_n 2, 1) := by decide +kernel
theorem dL_law_848 : decode code 848 = .ok (.aload_n 0, 1) := by decide +kernel
theorem dL_law_849 : decode code 849 = .ok (.iload_n 3, 1) := by decide +kernel
theorem dL_law_850 : decode code 850 = .ok (.iconst 1, 1) := by decide +kernel
theorem dL_law_851 : decode code 851 = .ok (.iadd, 1) := by decide +kernel
theorem dL_law_852 : decode code 852 = .ok (.iaload, 1) := by decide +kernel
theorem dL_law_853 : decode code 853 = .ok (.aload_n 0, 1) := by decide +kernel
theorem dL_law_854 : decode code 854 = .ok (.iload_n 3, 1) := by decide +kernel
theorem dL_law_855 : decode code 855 = .ok (.iconst 2, 1) := by decide +kernel
theorem dL_law_856 : decode code 856 = .ok (.iadd, 1) := by decide +kernel
theorem dL_law_857 : decode code 857 = .ok (.iaload, 1) := by decide +kernel
theorem dL_law_858 : decode code 858 = .ok (.aload_n 0, 1) := by decide +kernel
theorem dL_law_859 : decode code 859 = .ok (.iload_n 3, 1) := by decide +kernel
theorem dL_law_860 : decode code 860 = .ok (.iconst 3, 1) := by decide +kernel
theorem dL_law_861 : decode code 861 = .ok (.iadd, 1) := by decide +kernel
theorem dL_law_862 : decode code 862 = .ok (.iaload, 1) := by decide +kernel
theorem dL_law_863 : decode code 863 = .ok (.invokevirtual 94, 3) := by decide +kernel
theorem dL_law_866 : decode code 866 = .ok (.if_icmp .eq 633, 3) := by decide +kernel
theorem dL_law_869 : decode code 869 = .ok (.iconst 0, 1) := by decide +kernel
theorem dL_law_870 : decode code 870 = .ok (.ireturn, 1) := by decide +kernel
theorem dL_law_871 : decode code 871 = .ok (.aload_n 1, 1) := by decide +kernel
theorem dL_law_872 : decode code 872 = .ok (.aload_n 0, 1) := by decide +kernel
theorem dL_law_873 : decode code 873 = .ok (.iload_n 3, 1) := by decide +kernel
theorem dL_law_874 : decode code 874 = .ok (.iconst 1, 1) := by decide +kernel
theorem dL_law_875 : decode code 875 = .ok (.iadd, 1) := by decide +kernel
theorem dL_law_876 : decode code 876 = .ok (.iaload, 1) := by decide +kernel
theorem dL_law_877 : decode code 877 = .ok (.invokevirtual 95, 3) := by decide +kernel
theorem dL_law_880 : decode code 880 = .ok (.aload_n 2, 1) := by decide +kernel
theorem dL_law_881 : decode code 881 = .ok (.aload_n 0, 1) := by decide +kernel
theorem dL_law_882 : decode code 882 = .ok (.iload_n 3, 1) := by decide +kernel
theorem dL_law_883 : decode code 883 = .ok (.iconst 1, 1) := by decide +kernel
theorem dL_law_884 : decode code 884 = .ok (.iadd, 1) := by decide +kernel
theorem dL_law_885 : decode code 885 = .ok (.iaload, 1) := by decide +kernel
theorem dL_law_886 : decode code 886 = .ok (.invokevirtual 98, 3) := by decide +kernel
theorem dL_law_889 : decode code 889 = .ok (.if_icmp .eq 610, 3) := by decide +kernel
theorem dL_law_892 : decode code 892 = .ok (.iconst 0, 1) := by decide +kernel
theorem dL_law_893 : decode code 893 = .ok (.ireturn, 1) := by decide +kernel
theorem dL_law_894 : decode code 894 = .ok (.aload_n 1, 1) := by decide +kernel
theorem dL_law_895 : decode code 895 = .ok (.aload_n 0, 1) := by decide +kernel
theorem dL_law_896 : decode code 896 = .ok (.iload_n 3, 1) := by decide +kernel
theorem dL_law_897 : decode code 897 = .ok (.iconst 1, 1) := by decide +kernel
theorem dL_law_898 : decode code 898 = .ok (.iadd, 1) := by decide +kernel
theorem dL_law_899 : decode code 899 = .ok (.iaload, 1) := by decide +kernel
theorem dL_law_900 : decode code 900 = .ok (.invokevirtual 99, 3) := by decide +kernel
theorem dL_law_903 : decode code 903 = .ok (.aload_n 2, 1) := by decide +kernel
theorem dL_law_904 : decode code 904 = .ok (.aload_n 0, 1) := by decide +kernel
theorem dL_law_905 : decode code 905 = .ok (.iload_n 3, 1) := by decide +kernel
theorem dL_law_906 : decode code 906 = .ok (.iconst 1, 1) := by decide +kernel
theorem dL_law_907 : decode code 907 = .ok (.iadd, 1) := by decide +kernel
theorem dL_law_908 : decode code 908 = .ok (.iaload, 1) := by decide +kernel
theorem dL_law_909 : decode code 909 = .ok (.invokevirtual 102, 3) := by decide +kernel
theorem dL_law_912 : decode code 912 = .ok (.if_icmp .eq 587, 3) := by decide +kernel
theorem dL_law_915 : decode code 915 = .ok (.iconst 0, 1) := by decide +kernel
theorem dL_law_916 : decode code 916 = .ok (.ireturn, 1) := by decide +kernel
theorem dL_law_917 : decode code 917 = .ok (.aload_n 1, 1) := by decide +kernel
theorem dL_law_918 : decode code 918 = .ok (.aload_n 0, 1) := by decide +kernel
theorem dL_law_919 : decode code 919 = .ok (.iload_n 3, 1) := by decide +kernel
theorem dL_law_920 : decode code 920 = .ok (.iconst 1, 1) := by decide +kernel
theorem dL_law_921 : decode code 921 = .ok (.iadd, 1) := by decide +kernel
theorem dL_law_922 : decode code 922 = .ok (.iaload, 1) := by decide +kernel
theorem dL_law_923 : decode code 923 = .ok (.invokevirtual 103, 3) := by decide +kernel
theorem dL_law_926 : decode code 926 = .ok (.aload_n 2, 1) := by decide +kernel
theorem dL_law_927 : decode code 927 = .ok (.aload_n 0, 1) := by decide +kernel
theorem dL_law_928 : decode code 928 = .ok (.iload_n 3, 1) := by decide +kernel
theorem dL_law_929 : decode code 929 = .ok (.iconst 1, 1) := by decide +kernel
theorem dL_law_930 : decode code 930 = .ok (.iadd, 1) := by decide +kernel
theorem dL_law_931 : decode code 931 = .ok (.iaload, 1) := by decide +kernel
theorem dL_law_932 : decode code 932 = .ok (.invokevirtual 106, 3) := by decide +kernel
theorem dL_law_935 : decode code 935 = .ok (.if_icmp .eq 564, 3) := by decide +kernel
theorem dL_law_938 : decode code 938 = .ok (.iconst 0, 1) := by decide +kernel
theorem dL_law_939 : decode code 939 = .ok (.ireturn, 1) := by decide +kernel
theorem dL_law_940 : decode code 940 = .ok (.aload_n 1, 1) := by decide +kernel
theorem dL_law_941 : decode code 941 = .ok (.invokevirtual 107, 3) := by decide +kernel
theorem dL_law_944 : decode code 944 = .ok (.aload_n 2, 1) := by decide +kernel
theorem dL_law_945 : decode code 945 = .ok (.invokevirtual 110, 3) := by decide +kernel
theorem dL_law_948 : decode code 948 = .ok (.if_icmp .eq 551, 3) := by decide +kernel
theorem dL_law_951 : decode code 951 = .ok (.iconst 0, 1) := by decide +kernel
theorem dL_law_952 : decode code 952 = .ok (.ireturn, 1) := by decide +kernel
theorem dL_law_953 : decode code 953 = .ok (.aload_n 1, 1) := by decide +kernel
theorem dL_law_954 : decode code 954 = .ok (.aload_n 0, 1) := by decide +kernel
theorem dL_law_955 : decode code 955 = .ok (.iload_n 3, 1) := by decide +kernel
theorem dL_law_956 : decode code 956 = .ok (.iconst 1, 1) := by decide +kernel
theorem dL_law_957 : decode code 957 = .ok (.iadd, 1) := by decide +kernel
theorem dL_law_958 : decode code 958 = .ok (.iaload, 1) := by decide +kernel
theorem dL_law_959 : decode code 959 = .ok (.invokevirtual 111, 3) := by decide +kernel
theorem dL_law_962 : decode code 962 = .ok (.aload_n 2, 1) := by decide +kernel
theorem dL_law_963 : decode code 963 = .ok (.aload_n 0, 1) := by decide +kernel
theorem dL_law_964 : decode code 964 = .ok (.iload_n 3, 1) := by decide +kernel
theorem dL_law_965 : decode code 965 = .ok (.iconst 1, 1) := by decide +kernel
theorem dL_law_966 : decode code 966 = .ok (.iadd, 1) := by decide +kernel
theorem dL_law_967 : decode code 967 = .ok (.iaload, 1) := by decide +kernel
theorem dL_law_968 : decode code 968 = .ok (.invokevirtual 114, 3) := by decide +kernel
theorem dL_law_971 : decode code 971 = .ok (.if_icmp .eq 528, 3) := by decide +kernel
theorem dL_law_974 : decode code 974 = .ok (.iconst 0, 1) := by decide +kernel
theorem dL_law_975 : decode code 975 = .ok (.ireturn, 1) := by decide +kernel
theorem dL_law_976 : decode code 976 = .ok (.aload_n 1, 1) := by decide +kernel
theorem dL_law_977 : decode code 977 = .ok (.aload_n 0, 1) := by decide +kernel
theorem dL_law_978 : decode code 978 = .ok (.iload_n 3, 1) := by decide +kernel
theorem dL_law_979 : decode code 979 = .ok (.iconst 1, 1) := by decide +kernel
theorem dL_law_980 : decode code 980 = .ok (.iadd, 1) := by decide +kernel
theorem dL_law_981 : decode code 981 = .ok (.iaload, 1) := by decide +kernel
theorem dL_law_982 : decode code 982 = .ok (.aload_n 0, 1) := by decide +kernel
theorem dL_law_983 : decode code 983 = .ok (.iload_n 3, 1) := by decide +kernel
theorem dL_law_984 : decode code 984 = .ok (.iconst 2, 1) := by decide +kernel
theorem dL_law_985 : decode code 985 = .ok (.iadd, 1) := by decide +kernel
theorem dL_law_986 : decode code 986 = .ok (.iaload, 1) := by decide +kernel
theorem dL_law_987 : decode code 987 = .ok (.invokevirtual 115, 3) := by decide +kernel
theorem dL_law_990 : decode code 990 = .ok (.aload_n 2, 1) := by decide +kernel
theorem dL_law_991 : decode code 991 = .ok (.aload_n 0, 1) := by decide +kernel
theorem dL_law_992 : decode code 992 = .ok (.iload_n 3, 1) := by decide +kernel
theorem dL_law_993 : decode code 993 = .ok (.iconst 1, 1) := by decide +kernel
theorem dL_law_994 : decode code 994 = .ok (.iadd, 1) := by decide +kernel
theorem dL_law_995 : decode code 995 = .ok (.iaload, 1) := by decide +kernel
theorem dL_law_996 : decode code 996 = .ok (.aload_n 0, 1) := by decide +kernel
theorem dL_law_997 : decode code 997 = .ok (.iload_n 3, 1) := by decide +kernel
theorem dL_law_998 : decode code 998 = .ok (.iconst 2, 1) := by decide +kernel
theorem dL_law_999 : decode code 999 = .ok (.iadd, 1) := by decide +kernel
theorem dL_law_1000 : decode code 1000 = .ok (.iaload, 1) := by decide +kernel
theorem dL_law_1001 : decode code 1001 = .ok (.invokevirtual 118, 3) := by decide +kernel
theorem dL_law_1004 : decode code 1004 = .ok (.if_icmp .eq 495, 3) := by decide +kernel
theorem dL_law_1007 : decode code 1007 = .ok (.iconst 0, 1) := by decide +kernel
theorem dL_law_1008 : decode code 1008 = .ok (.ireturn, 1) := by decide +kernel
theorem dL_law_1009 : decode code 1009 = .ok (.aload_n 1, 1) := by decide +kernel
theorem dL_law_1010 : decode code 1010 = .ok (.aload_n 0, 1) := by decide +kernel
theorem dL_law_1011 : decode code 1011 = .ok (.iload_n 3, 1) := by decide +kernel
theorem dL_law_1012 : decode code 1012 = .ok (.iconst 1, 1) := by decide +kernel
theorem dL_law_1013 : decode code 1013 = .ok (.iadd, 1) := by decide +kernel
theorem dL_law_1014 : decode code 1014 = .ok (.iaload, 1) := by decide +kernel
theorem dL_law_1015 : decode code 1015 = .ok (.aload_n 0, 1) := by decide +kernel
theorem dL_law_1016 : decode code 1016 = .ok (.iload_n 3, 1) := by decide +kernel
theorem dL_law_1017 : decode code 1017 = .ok (.iconst 2, 1) := by decide +kernel
theorem dL_law_1018 : decode code 1018 = .ok (.iadd, 1) := by decide +kernel
theorem dL_law_1019 : decode code 1019 = .ok (.iaload, 1) := by decide +kernel
theorem dL_law_1020 : decode code 1020 = .ok (.invokevirtual 119, 3) := by decide +kernel
theorem dL_law_1023 : decode code 1023 = .ok (.aload_n 2, 1) := by decide +kernel
theorem dL_law_1024 : decode code 1024 = .ok (.aload_n 0, 1) := by decide +kernel
theorem dL_law_1025 : decode code 1025 = .ok (.iload_n 3, 1) := by decide +kernel
theorem dL_law_1026 : decode code 1026 = .ok (.iconst 1, 1) := by decide +kernel
theorem dL_law_1027 : decode code 1027 = .ok (.iadd, 1) := by decide +kernel
theorem dL_law_1028 : decode code 1028 = .ok (.iaload, 1) := by decide +kernel
theorem dL_law_1029 : decode code 1029 = .ok (.aload_n 0, 1) := by decide +kernel
theorem dL_law_1030 : decode code 1030 = .ok (.iload_n 3, 1) := by decide +kernel
theorem dL_law_1031 : decode code 1031 = .ok (.iconst 2, 1) := by decide +kernel
theorem dL_law_1032 : decode code 1032 = .ok (.iadd, 1) := by decide +kernel
theorem dL_law_1033 : decode code 1033 = .ok (.iaload, 1) := by decide +kernel
theorem dL_law_1034 : decode code 1034 = .ok (.invokevirtual 122, 3) := by decide +kernel
theorem dL_law_1037 : decode code 1037 = .ok (.if_icmp .eq 462, 3) := by decide +kernel
theorem dL_law_1040 : decode code 1040 = .ok (.iconst 0, 1) := by decide +kernel
theorem dL_law_1041 : decode code 1041 = .ok (.ireturn, 1) := by decide +kernel
theorem dL_law_1042 : decode code 1042 = .ok (.aload_n 1, 1) := by decide +kernel
theorem dL_law_1043 : decode code 1043 = .ok (.aload_n 0, 1) := by decide +kernel
theorem dL_law_1044 : decode code 1044 = .ok (.iload_n 3, 1) := by decide +kernel
theorem dL_law_1045 : decode code 1045 = .ok (.iconst 1, 1) := by decide +kernel
theorem dL_law_1046 : decode code 1046 = .ok (.iadd, 1) := by decide +kernel
theorem dL_law_1047 : decode code 1047 = .ok (.iaload, 1) := by decide +kernel
theorem dL_law_1048 : decode code 1048 = .ok (.aload_n 0, 1) := by decide +kernel
theorem dL_law_1049 : decode code 1049 = .ok (.iload_n 3, 1) := by decide +kernel
theorem dL_law_1050 : decode code 1050 = .ok (.iconst 2, 1) := by decide +kernel
theorem dL_law_1051 : decode code 1051 = .ok (.iadd, 1) := by decide +kernel
theorem dL_law_1052 : decode code 1052 = .ok (.iaload, 1) := by decide +kernel
theorem dL_law_1053 : decode code 1053 = .ok (.invokevirtual 123, 3) := by decide +kernel
theorem dL_law_1056 : decode code 1056 = .ok (.aload_n 2, 1) := by decide +kernel
theorem dL_law_1057 : decode code 1057 = .ok (.aload_n 0, 1) := by decide +kernel
theorem dL_law_1058 : decode code 1058 = .ok (.iload_n 3, 1) := by decide +kernel
theorem dL_law_1059 : decode code 1059 = .ok (.iconst 1, 1) := by decide +kernel
theorem dL_law_1060 : decode code 1060 = .ok (.iadd, 1) := by decide +kernel
theorem dL_law_1061 : decode code 1061 = .ok (.iaload, 1) := by decide +kernel
theorem dL_law_1062 : decode code 1062 = .ok (.aload_n 0, 1) := by decide +kernel
theorem dL_law_1063 : decode code 1063 = .ok (.iload_n 3, 1) := by decide +kernel
theorem dL_law_1064 : decode code 1064 = .ok (.iconst 2, 1) := by decide +kernel
theorem dL_law_1065 : decode code 1065 = .ok (.iadd, 1) := by decide +kernel
theorem dL_law_1066 : decode code 1066 = .ok (.iaload, 1) := by decide +kernel
theorem dL_law_1067 : decode code 1067 = .ok (.invokevirtual 126, 3) := by decide +kernel
theorem dL_law_1070 : decode code 1070 = .ok (.if_icmp .eq 429, 3) := by decide +kernel
theorem dL_law_1073 : decode code 1073 = .ok (.iconst 0, 1) := by decide +kernel
theorem dL_law_1074 : decode code 1074 = .ok (.ireturn, 1) := by decide +kernel
theorem dL_law_1075 : decode code 1075 = .ok (.aload_n 1, 1) := by decide +kernel
theorem dL_law_1076 : decode code 1076 = .ok (.aload_n 0, 1) := by decide +kernel
theorem dL_law_1077 : decode code 1077 = .ok (.iload_n 3, 1) := by decide +kernel
theorem dL_law_1078 : decode code 1078 = .ok (.iconst 1, 1) := by decide +kernel
theorem dL_law_1079 : decode code 1079 = .ok (.iadd, 1) := by decide +kernel
theorem dL_law_1080 : decode code 1080 = .ok (.iaload, 1) := by decide +kernel
theorem dL_law_1081 : decode code 1081 = .ok (.aload_n 0, 1) := by decide +kernel
theorem dL_law_1082 : decode code 1082 = .ok (.iload_n 3, 1) := by decide +kernel
theorem dL_law_1083 : decode code 1083 = .ok (.iconst 2, 1) := by decide +kernel
theorem dL_law_1084 : decode code 1084 = .ok (.iadd, 1) := by decide +kernel
theorem dL_law_1085 : decode code 1085 = .ok (.iaload, 1) := by decide +kernel
theorem dL_law_1086 : decode code 1086 = .ok (.invokevirtual 127, 3) := by decide +kernel
theorem dL_law_1089 : decode code 1089 = .ok (.aload_n 2, 1) := by decide +kernel
theorem dL_law_1090 : decode code 1090 = .ok (.aload_n 0, 1) := by decide +kernel
theorem dL_law_1091 : decode code 1091 = .ok (.iload_n 3, 1) := by decide +kernel
theorem dL_law_1092 : decode code 1092 = .ok (.iconst 1, 1) := by decide +kernel
theorem dL_law_1093 : decode code 1093 = .ok (.iadd, 1) := by decide +kernel
theorem dL_law_1094 : decode code 1094 = .ok (.iaload, 1) := by decide +kernel
theorem dL_law_1095 : decode code 1095 = .ok (.aload_n 0, 1) := by decide +kernel
theorem dL_law_1096 : decode code 1096 = .ok (.iload_n 3, 1) := by decide +kernel
theorem dL_law_1097 : decode code 1097 = .ok (.iconst 2, 1) := by decide +kernel
theorem dL_law_1098 : decode code 1098 = .ok (.iadd, 1) := by decide +kernel
theorem dL_law_1099 : decode code 1099 = .ok (.iaload, 1) := by decide +kernel
theorem dL_law_1100 : decode code 1100 = .ok (.invokevirtual 130, 3) := by decide +kernel
theorem dL_law_1103 : decode code 1103 = .ok (.if_icmp .eq 396, 3) := by decide +kernel
theorem dL_law_1106 : decode code 1106 = .ok (.iconst 0, 1) := by decide +kernel
theorem dL_law_1107 : decode code 1107 = .ok (.ireturn, 1) := by decide +kernel
theorem dL_law_1108 : decode code 1108 = .ok (.aload_n 1, 1) := by decide +kernel
theorem dL_law_1109 : decode code 1109 = .ok (.aload_n 0, 1) := by decide +kernel
theorem dL_law_1110 : decode code 1110 = .ok (.iload_n 3, 1) := by decide +kernel
theorem dL_law_1111 : decode code 1111 = .ok (.iconst 1, 1) := by decide +kernel
theorem dL_law_1112 : decode code 1112 = .ok (.iadd, 1) := by decide +kernel
theorem dL_law_1113 : decode code 1113 = .ok (.iaload, 1) := by decide +kernel
theorem dL_law_1114 : decode code 1114 = .ok (.invokevirtual 131, 3) := by decide +kernel
theorem dL_law_1117 : decode code 1117 = .ok (.aload_n 2, 1) := by decide +kernel
theorem dL_law_1118 : decode code 1118 = .ok (.aload_n 0, 1) := by decide +kernel
theorem dL_law_1119 : decode code 1119 = .ok (.iload_n 3, 1) := by decide +kernel
theorem dL_law_1120 : decode code 1120 = .ok (.iconst 1, 1) := by decide +kernel
theorem dL_law_1121 : decode code 1121 = .ok (.iadd, 1) := by decide +kernel
theorem dL_law_1122 : decode code 1122 = .ok (.iaload, 1) := by decide +kernel
theorem dL_law_1123 : decode code 1123 = .ok (.invokevirtual 134, 3) := by decide +kernel
theorem dL_law_1126 : decode code 1126 = .ok (.if_icmp .eq 373, 3) := by decide +kernel
theorem dL_law_1129 : decode code 1129 = .ok (.iconst 0, 1) := by decide +kernel
theorem dL_law_1130 : decode code 1130 = .ok (.ireturn, 1) := by decide +kernel
theorem dL_law_1131 : decode code 1131 = .ok (.aload_n 1, 1) := by decide +kernel
theorem dL_law_1132 : decode code 1132 = .ok (.aload_n 0, 1) := by decide +kernel
theorem dL_law_1133 : decode code 1133 = .ok (.iload_n 3, 1) := by decide +kernel
theorem dL_law_1134 : decode code 1134 = .ok (.iconst 1, 1) := by decide +kernel
theorem dL_law_1135 : decode code 1135 = .ok (.iadd, 1) := by decide +kernel
theorem dL_law_1136 : decode code 1136 = .ok (.iaload, 1) := by decide +kernel
theorem dL_law_1137 : decode code 1137 = .ok (.invokevirtual 135, 3) := by decide +kernel
theorem dL_law_1140 : decode code 1140 = .ok (.aload_n 2, 1) := by decide +kernel
theorem dL_law_1141 : decode code 1141 = .ok (.aload_n 0, 1) := by decide +kernel
theorem dL_law_1142 : decode code 1142 = .ok (.iload_n 3, 1) := by decide +kernel
theorem dL_law_1143 : decode code 1143 = .ok (.iconst 1, 1) := by decide +kernel
theorem dL_law_1144 : decode code 1144 = .ok (.iadd, 1) := by decide +kernel
theorem dL_law_1145 : decode code 1145 = .ok (.iaload, 1) := by decide +kernel
theorem dL_law_1146 : decode code 1146 = .ok (.invokevirtual 138, 3) := by decide +kernel
theorem dL_law_1149 : decode code 1149 = .ok (.if_icmp .eq 350, 3) := by decide +kernel
theorem dL_law_1152 : decode code 1152 = .ok (.iconst 0, 1) := by decide +kernel
theorem dL_law_1153 : decode code 1153 = .ok (.ireturn, 1) := by decide +kernel
theorem dL_law_1154 : decode code 1154 = .ok (.aload_n 1, 1) := by decide +kernel
theorem dL_law_1155 : decode code 1155 = .ok (.aload_n 0, 1) := by decide +kernel
theorem dL_law_1156 : decode code 1156 = .ok (.iload_n 3, 1) := by decide +kernel
theorem dL_law_1157 : decode code 1157 = .ok (.iconst 1, 1) := by decide +kernel
theorem dL_law_1158 : decode code 1158 = .ok (.iadd, 1) := by decide +kernel
theorem dL_law_1159 : decode code 1159 = .ok (.iaload, 1) := by decide +kernel
theorem dL_law_1160 : decode code 1160 = .ok (.aload_n 0, 1) := by decide +kernel
theorem dL_law_1161 : decode code 1161 = .ok (.iload_n 3, 1) := by decide +kernel
theorem dL_law_1162 : decode code 1162 = .ok (.iconst 2, 1) := by decide +kernel
theorem dL_law_1163 : decode code 1163 = .ok (.iadd, 1) := by decide +kernel
theorem dL_law_1164 : decode code 1164 = .ok (.iaload, 1) := by decide +kernel
theorem dL_law_1165 : decode code 1165 = .ok (.invokevirtual 139, 3) := by decide +kernel
theorem dL_law_1168 : decode code 1168 = .ok (.aload_n 2, 1) := by decide +kernel
theorem dL_law_1169 : decode code 1169 = .ok (.aload_n 0, 1) := by decide +kernel
theorem dL_law_1170 : decode code 1170 = .ok (.iload_n 3, 1) := by decide +kernel
theorem dL_law_1171 : decode code 1171 = .ok (.iconst 1, 1) := by decide +kernel
theorem dL_law_1172 : decode code 1172 = .ok (.iadd, 1) := by decide +kernel
theorem dL_law_1173 : decode code 1173 = .ok (.iaload, 1) := by decide +kernel
theorem dL_law_1174 : decode code 1174 = .ok (.aload_n 0, 1) := by decide +kernel
theorem dL_law_1175 : decode code 1175 = .ok (.iload_n 3, 1) := by decide +kernel
theorem dL_law_1176 : decode code 1176 = .ok (.iconst 2, 1) := by decide +kernel
theorem dL_law_1177 : decode code 1177 = .ok (.iadd, 1) := by decide +kernel
theorem dL_law_1178 : decode code 1178 = .ok (.iaload, 1) := by decide +kernel
theorem dL_law_1179 : decode code 1179 = .ok (.invokevirtual 142, 3) := by decide +kernel
theorem dL_law_1182 : decode code 1182 = .ok (.if_icmp .eq 317, 3) := by decide +kernel
theorem dL_law_1185 : decode code 1185 = .ok (.iconst 0, 1) := by decide +kernel
theorem dL_law_1186 : decode code 1186 = .ok (.ireturn, 1) := by decide +kernel
theorem dL_law_1187 : decode code 1187 = .ok (.aload_n 1, 1) := by decide +kernel
theorem dL_law_1188 : decode code 1188 = .ok (.aload_n 0, 1) := by decide +kernel
theorem dL_law_1189 : decode code 1189 = .ok (.iload_n 3, 1) := by decide +kernel
theorem dL_law_1190 : decode code 1190 = .ok (.iconst 1, 1) := by decide +kernel
theorem dL_law_1191 : decode code 1191 = .ok (.iadd, 1) := by decide +kernel
theorem dL_law_1192 : decode code 1192 = .ok (.iaload, 1) := by decide +kernel
theorem dL_law_1193 : decode code 1193 = .ok (.aload_n 0, 1) := by decide +kernel
theorem dL_law_1194 : decode code 1194 = .ok (.iload_n 3, 1) := by decide +kernel
theorem dL_law_1195 : decode code 1195 = .ok (.iconst 2, 1) := by decide +kernel
theorem dL_law_1196 : decode code 1196 = .ok (.iadd, 1) := by decide +kernel
theorem dL_law_1197 : decode code 1197 = .ok (.iaload, 1) := by decide +kernel
theorem dL_law_1198 : decode code 1198 = .ok (.invokevirtual 143, 3) := by decide +kernel
theorem dL_law_1201 : decode code 1201 = .ok (.aload_n 2, 1) := by decide +kernel
theorem dL_law_1202 : decode code 1202 = .ok (.aload_n 0, 1) := by decide +kernel
theorem dL_law_1203 : decode code 1203 = .ok (.iload_n 3, 1) := by decide +kernel
theorem dL_law_1204 : decode code 1204 = .ok (.iconst 1, 1) := by decide +kernel
theorem dL_law_1205 : decode code 1205 = .ok (.iadd, 1) := by decide +kernel
theorem dL_law_1206 : decode code 1206 = .ok (.iaload, 1) := by decide +kernel
theorem dL_law_1207 : decode code 1207 = .ok (.aload_n 0, 1) := by decide +kernel
theorem dL_law_1208 : decode code 1208 = .ok (.iload_n 3, 1) := by decide +kernel
theorem dL_law_1209 : decode code 1209 = .ok (.iconst 2, 1) := by decide +kernel
theorem dL_law_1210 : decode code 1210 = .ok (.iadd, 1) := by decide +kernel
theorem dL_law_1211 : decode code 1211 = .ok (.iaload, 1) := by decide +kernel
theorem dL_law_1212 : decode code 1212 = .ok (.invokevirtual 146, 3) := by decide +kernel
theorem dL_law_1215 : decode code 1215 = .ok (.if_icmp .eq 284, 3) := by decide +kernel
theorem dL_law_1218 : decode code 1218 = .ok (.iconst 0, 1) := by decide +kernel
theorem dL_law_1219 : decode code 1219 = .ok (.ireturn, 1) := by decide +kernel
theorem dL_law_1220 : decode code 1220 = .ok (.aload_n 1, 1) := by decide +kernel
theorem dL_law_1221 : decode code 1221 = .ok (.aload_n 0, 1) := by decide +kernel
theorem dL_law_1222 : decode code 1222 = .ok (.iload_n 3, 1) := by decide +kernel
theorem dL_law_1223 : decode code 1223 = .ok (.iconst 1, 1) := by decide +kernel
theorem dL_law_1224 : decode code 1224 = .ok (.iadd, 1) := by decide +kernel
theorem dL_law_1225 : decode code 1225 = .ok (.iaload, 1) := by decide +kernel
theorem dL_law_1226 : decode code 1226 = .ok (.aload_n 0, 1) := by decide +kernel
theorem dL_law_1227 : decode code 1227 = .ok (.iload_n 3, 1) := by decide +kernel
theorem dL_law_1228 : decode code 1228 = .ok (.iconst 2, 1) := by decide +kernel
theorem dL_law_1229 : decode code 1229 = .ok (.iadd, 1) := by decide +kernel
theorem dL_law_1230 : decode code 1230 = .ok (.iaload, 1) := by decide +kernel
theorem dL_law_1231 : decode code 1231 = .ok (.invokevirtual 147, 3) := by decide +kernel
theorem dL_law_1234 : decode code 1234 = .ok (.aload_n 2, 1) := by decide +kernel
theorem dL_law_1235 : decode code 1235 = .ok (.aload_n 0, 1) := by decide +kernel
theorem dL_law_1236 : decode code 1236 = .ok (.iload_n 3, 1) := by decide +kernel
theorem dL_law_1237 : decode code 1237 = .ok (.iconst 1, 1) := by decide +kernel
theorem dL_law_1238 : decode code 1238 = .ok (.iadd, 1) := by decide +kernel
theorem dL_law_1239 : decode code 1239 = .ok (.iaload, 1) := by decide +kernel
theorem dL_law_1240 : decode code 1240 = .ok (.aload_n 0, 1) := by decide +kernel
theorem dL_law_1241 : decode code 1241 = .ok (.iload_n 3, 1) := by decide +kernel
theorem dL_law_1242 : decode code 1242 = .ok (.iconst 2, 1) := by decide +kernel
theorem dL_law_1243 : decode code 1243 = .ok (.iadd, 1) := by decide +kernel
theorem dL_law_1244 : decode code 1244 = .ok (.iaload, 1) := by decide +kernel
theorem dL_law_1245 : decode code 1245 = .ok (.invokevirtual 150, 3) := by decide +kernel
theorem dL_law_1248 : decode code 1248 = .ok (.if_icmp .eq 251, 3) := by decide +kernel
theorem dL_law_1251 : decode code 1251 = .ok (.iconst 0, 1) := by decide +kernel
theorem dL_law_1252 : decode code 1252 = .ok (.ireturn, 1) := by decide +kernel
theorem dL_law_1253 : decode code 1253 = .ok (.aload_n 1, 1) := by decide +kernel
theorem dL_law_1254 : decode code 1254 = .ok (.aload_n 0, 1) := by decide +kernel
theorem dL_law_1255 : decode code 1255 = .ok (.iload_n 3, 1) := by decide +kernel
theorem dL_law_1256 : decode code 1256 = .ok (.iconst 1, 1) := by decide +kernel
theorem dL_law_1257 : decode code 1257 = .ok (.iadd, 1) := by decide +kernel
theorem dL_law_1258 : decode code 1258 = .ok (.iaload, 1) := by decide +kernel
theorem dL_law_1259 : decode code 1259 = .ok (.invokevirtual 151, 3) := by decide +kernel
theorem dL_law_1262 : decode code 1262 = .ok (.aload_n 2, 1) := by decide +kernel
theorem dL_law_1263 : decode code 1263 = .ok (.aload_n 0, 1) := by decide +kernel
theorem dL_law_1264 : decode code 1264 = .ok (.iload_n 3, 1) := by decide +kernel
theorem dL_law_1265 : decode code 1265 = .ok (.iconst 1, 1) := by decide +kernel
theorem dL_law_1266 : decode code 1266 = .ok (.iadd, 1) := by decide +kernel
theorem dL_law_1267 : decode code 1267 = .ok (.iaload, 1) := by decide +kernel
theorem dL_law_1268 : decode code 1268 = .ok (.invokevirtual 154, 3) := by decide +kernel
theorem dL_law_1271 : decode code 1271 = .ok (.if_icmp .eq 228, 3) := by decide +kernel
theorem dL_law_1274 : decode code 1274 = .ok (.iconst 0, 1) := by decide +kernel
theorem dL_law_1275 : decode code 1275 = .ok (.ireturn, 1) := by decide +kernel
theorem dL_law_1276 : decode code 1276 = .ok (.aload_n 1, 1) := by decide +kernel
theorem dL_law_1277 : decode code 1277 = .ok (.aload_n 0, 1) := by decide +kernel
theorem dL_law_1278 : decode code 1278 = .ok (.iload_n 3, 1) := by decide +kernel
theorem dL_law_1279 : decode code 1279 = .ok (.iconst 1, 1) := by decide +kernel
theorem dL_law_1280 : decode code 1280 = .ok (.iadd, 1) := by decide +kernel
theorem dL_law_1281 : decode code 1281 = .ok (.iaload, 1) := by decide +kernel
theorem dL_law_1282 : decode code 1282 = .ok (.aload_n 0, 1) := by decide +kernel
theorem dL_law_1283 : decode code 1283 = .ok (.iload_n 3, 1) := by decide +kernel
theorem dL_law_1284 : decode code 1284 = .ok (.iconst 2, 1) := by decide +kernel
theorem dL_law_1285 : decode code 1285 = .ok (.iadd, 1) := by decide +kernel
theorem dL_law_1286 : decode code 1286 = .ok (.iaload, 1) := by decide +kernel
theorem dL_law_1287 : decode code 1287 = .ok (.aload_n 0, 1) := by decide +kernel
theorem dL_law_1288 : decode code 1288 = .ok (.iload_n 3, 1) := by decide +kernel
theorem dL_law_1289 : decode code 1289 = .ok (.iconst 3, 1) := by decide +kernel
theorem dL_law_1290 : decode code 1290 = .ok (.iadd, 1) := by decide +kernel
theorem dL_law_1291 : decode code 1291 = .ok (.iaload, 1) := by decide +kernel
theorem dL_law_1292 : decode code 1292 = .ok (.invokevirtual 155, 3) := by decide +kernel
theorem dL_law_1295 : decode code 1295 = .ok (.aload_n 2, 1) := by decide +kernel
theorem dL_law_1296 : decode code 1296 = .ok (.aload_n 0, 1) := by decide +kernel
theorem dL_law_1297 : decode code 1297 = .ok (.iload_n 3, 1) := by decide +kernel
theorem dL_law_1298 : decode code 1298 = .ok (.iconst 1, 1) := by decide +kernel
theorem dL_law_1299 : decode code 1299 = .ok (.iadd, 1) := by decide +kernel
theorem dL_law_1300 : decode code 1300 = .ok (.iaload, 1) := by decide +kernel
theorem dL_law_1301 : decode code 1301 = .ok (.aload_n 0, 1) := by decide +kernel
theorem dL_law_1302 : decode code 1302 = .ok (.iload_n 3, 1) := by decide +kernel
theorem dL_law_1303 : decode code 1303 = .ok (.iconst 2, 1) := by decide +kernel
theorem dL_law_1304 : decode code 1304 = .ok (.iadd, 1) := by decide +kernel
theorem dL_law_1305 : decode code 1305 = .ok (.iaload, 1) := by decide +kernel
theorem dL_law_1306 : decode code 1306 = .ok (.aload_n 0, 1) := by decide +kernel
theorem dL_law_1307 : decode code 1307 = .ok (.iload_n 3, 1) := by decide +kernel
theorem dL_law_1308 : decode code 1308 = .ok (.iconst 3, 1) := by decide +kernel
theorem dL_law_1309 : decode code 1309 = .ok (.iadd, 1) := by decide +kernel
theorem dL_law_1310 : decode code 1310 = .ok (.iaload, 1) := by decide +kernel
theorem dL_law_1311 : decode code 1311 = .ok (.invokevirtual 158, 3) := by decide +kernel
theorem dL_law_1314 : decode code 1314 = .ok (.if_icmp .eq 185, 3) := by decide +kernel
theorem dL_law_1317 : decode code 1317 = .ok (.iconst 0, 1) := by decide +kernel
theorem dL_law_1318 : decode code 1318 = .ok (.ireturn, 1) := by decide +kernel
theorem dL_law_1319 : decode code 1319 = .ok (.aload_n 1, 1) := by decide +kernel
theorem dL_law_1320 : decode code 1320 = .ok (.aload_n 0, 1) := by decide +kernel
theorem dL_law_1321 : decode code 1321 = .ok (.iload_n 3, 1) := by decide +kernel
theorem dL_law_1322 : decode code 1322 = .ok (.iconst 1, 1) := by decide +kernel
theorem dL_law_1323 : decode code 1323 = .ok (.iadd, 1) := by decide +kernel
theorem dL_law_1324 : decode code 1324 = .ok (.iaload, 1) := by decide +kernel
theorem dL_law_1325 : decode code 1325 = .ok (.aload_n 0, 1) := by decide +kernel
theorem dL_law_1326 : decode code 1326 = .ok (.iload_n 3, 1) := by decide +kernel
theorem dL_law_1327 : decode code 1327 = .ok (.iconst 2, 1) := by decide +kernel
theorem dL_law_1328 : decode code 1328 = .ok (.iadd, 1) := by decide +kernel
theorem dL_law_1329 : decode code 1329 = .ok (.iaload, 1) := by decide +kernel
theorem dL_law_1330 : decode code 1330 = .ok (.invokevirtual 159, 3) := by decide +kernel
theorem dL_law_1333 : decode code 1333 = .ok (.aload_n 2, 1) := by decide +kernel
theorem dL_law_1334 : decode code 1334 = .ok (.aload_n 0, 1) := by decide +kernel
theorem dL_law_1335 : decode code 1335 = .ok (.iload_n 3, 1) := by decide +kernel
theorem dL_law_1336 : decode code 1336 = .ok (.iconst 1, 1) := by decide +kernel
theorem dL_law_1337 : decode code 1337 = .ok (.iadd, 1) := by decide +kernel
theorem dL_law_1338 : decode code 1338 = .ok (.iaload, 1) := by decide +kernel
theorem dL_law_1339 : decode code 1339 = .ok (.aload_n 0, 1) := by decide +kernel
theorem dL_law_1340 : decode code 1340 = .ok (.iload_n 3, 1) := by decide +kernel
theorem dL_law_1341 : decode code 1341 = .ok (.iconst 2, 1) := by decide +kernel
theorem dL_law_1342 : decode code 1342 = .ok (.iadd, 1) := by decide +kernel
theorem dL_law_1343 : decode code 1343 = .ok (.iaload, 1) := by decide +kernel
theorem dL_law_1344 : decode code 1344 = .ok (.invokevirtual 162, 3) := by decide +kernel
theorem dL_law_1347 : decode code 1347 = .ok (.if_icmp .eq 152, 3) := by decide +kernel
theorem dL_law_1350 : decode code 1350 = .ok (.iconst 0, 1) := by decide +kernel
theorem dL_law_1351 : decode code 1351 = .ok (.ireturn, 1) := by decide +kernel
theorem dL_law_1352 : decode code 1352 = .ok (.aload_n 1, 1) := by decide +kernel
theorem dL_law_1353 : decode code 1353 = .ok (.aload_n 0, 1) := by decide +kernel
theorem dL_law_1354 : decode code 1354 = .ok (.iload_n 3, 1) := by decide +kernel
theorem dL_law_1355 : decode code 1355 = .ok (.iconst 1, 1) := by decide +kernel
theorem dL_law_1356 : decode code 1356 = .ok (.iadd, 1) := by decide +kernel
theorem dL_law_1357 : decode code 1357 = .ok (.iaload, 1) := by decide +kernel
theorem dL_law_1358 : decode code 1358 = .ok (.aload_n 0, 1) := by decide +kernel
theorem dL_law_1359 : decode code 1359 = .ok (.iload_n 3, 1) := by decide +kernel
theorem dL_law_1360 : decode code 1360 = .ok (.iconst 2, 1) := by decide +kernel
theorem dL_law_1361 : decode code 1361 = .ok (.iadd, 1) := by decide +kernel
theorem dL_law_1362 : decode code 1362 = .ok (.iaload, 1) := by decide +kernel
theorem dL_law_1363 : decode code 1363 = .ok (.invokevirtual 163, 3) := by decide +kernel
theorem dL_law_1366 : decode code 1366 = .ok (.aload_n 2, 1) := by decide +kernel
theorem dL_law_1367 : decode code 1367 = .ok (.aload_n 0, 1) := by decide +kernel
theorem dL_law_1368 : decode code 1368 = .ok (.iload_n 3, 1) := by decide +kernel
theorem dL_law_1369 : decode code 1369 = .ok (.iconst 1, 1) := by decide +kernel
theorem dL_law_1370 : decode code 1370 = .ok (.iadd, 1) := by decide +kernel
theorem dL_law_1371 : decode code 1371 = .ok (.iaload, 1) := by decide +kernel
theorem dL_law_1372 : decode code 1372 = .ok (.aload_n 0, 1) := by decide +kernel
theorem dL_law_1373 : decode code 1373 = .ok (.iload_n 3, 1) := by decide +kernel
theorem dL_law_1374 : decode code 1374 = .ok (.iconst 2, 1) := by decide +kernel
theorem dL_law_1375 : decode code 1375 = .ok (.iadd, 1) := by decide +kernel
theorem dL_law_1376 : decode code 1376 = .ok (.iaload, 1) := by decide +kernel
theorem dL_law_1377 : decode code 1377 = .ok (.invokevirtual 166, 3) := by decide +kernel
theorem dL_law_1380 : decode code 1380 = .ok (.if_icmp .eq 119, 3) := by decide +kernel
theorem dL_law_1383 : decode code 1383 = .ok (.iconst 0, 1) := by decide +kernel
theorem dL_law_1384 : decode code 1384 = .ok (.ireturn, 1) := by decide +kernel
theorem dL_law_1385 : decode code 1385 = .ok (.aload_n 1, 1) := by decide +kernel
theorem dL_law_1386 : decode code 1386 = .ok (.invokevirtual 167, 3) := by decide +kernel
theorem dL_law_1389 : decode code 1389 = .ok (.aload_n 2, 1) := by decide +kernel
theorem dL_law_1390 : decode code 1390 = .ok (.invokevirtual 170, 3) := by decide +kernel
theorem dL_law_1393 : decode code 1393 = .ok (.if_icmp .eq 106, 3) := by decide +kernel
theorem dL_law_1396 : decode code 1396 = .ok (.iconst 0, 1) := by decide +kernel
theorem dL_law_1397 : decode code 1397 = .ok (.ireturn, 1) := by decide +kernel
theorem dL_law_1398 : decode code 1398 = .ok (.aload_n 1, 1) := by decide +kernel
theorem dL_law_1399 : decode code 1399 = .ok (.invokevirtual 171, 3) := by decide +kernel
theorem dL_law_1402 : decode code 1402 = .ok (.aload_n 2, 1) := by decide +kernel
theorem dL_law_1403 : decode code 1403 = .ok (.invokevirtual 175, 3) := by decide +kernel
theorem dL_law_1406 : decode code 1406 = .ok (.lcmp, 1) := by decide +kernel
theorem dL_law_1407 : decode code 1407 = .ok (.ifCond .eq 92, 3) := by decide +kernel
theorem dL_law_1410 : decode code 1410 = .ok (.iconst 0, 1) := by decide +kernel
theorem dL_law_1411 : decode code 1411 = .ok (.ireturn, 1) := by decide +kernel
theorem dL_law_1412 : decode code 1412 = .ok (.aload_n 1, 1) := by decide +kernel
theorem dL_law_1413 : decode code 1413 = .ok (.invokevirtual 176, 3) := by decide +kernel
theorem dL_law_1416 : decode code 1416 = .ok (.aload_n 2, 1) := by decide +kernel
theorem dL_law_1417 : decode code 1417 = .ok (.invokevirtual 179, 3) := by decide +kernel
theorem dL_law_1420 : decode code 1420 = .ok (.lcmp, 1) := by decide +kernel
theorem dL_law_1421 : decode code 1421 = .ok (.ifCond .eq 78, 3) := by decide +kernel
theorem dL_law_1424 : decode code 1424 = .ok (.iconst 0, 1) := by decide +kernel
theorem dL_law_1425 : decode code 1425 = .ok (.ireturn, 1) := by decide +kernel
theorem dL_law_1426 : decode code 1426 = .ok (.aload_n 1, 1) := by decide +kernel
theorem dL_law_1427 : decode code 1427 = .ok (.aload_n 0, 1) := by decide +kernel
theorem dL_law_1428 : decode code 1428 = .ok (.iload_n 3, 1) := by decide +kernel
theorem dL_law_1429 : decode code 1429 = .ok (.iconst 1, 1) := by decide +kernel
theorem dL_law_1430 : decode code 1430 = .ok (.iadd, 1) := by decide +kernel
theorem dL_law_1431 : decode code 1431 = .ok (.iaload, 1) := by decide +kernel
theorem dL_law_1432 : decode code 1432 = .ok (.invokevirtual 180, 3) := by decide +kernel
theorem dL_law_1435 : decode code 1435 = .ok (.aload_n 2, 1) := by decide +kernel
theorem dL_law_1436 : decode code 1436 = .ok (.aload_n 0, 1) := by decide +kernel
theorem dL_law_1437 : decode code 1437 = .ok (.iload_n 3, 1) := by decide +kernel
theorem dL_law_1438 : decode code 1438 = .ok (.iconst 1, 1) := by decide +kernel
theorem dL_law_1439 : decode code 1439 = .ok (.iadd, 1) := by decide +kernel
theorem dL_law_1440 : decode code 1440 = .ok (.iaload, 1) := by decide +kernel
theorem dL_law_1441 : decode code 1441 = .ok (.invokevirtual 183, 3) := by decide +kernel
theorem dL_law_1444 : decode code 1444 = .ok (.if_icmp .eq 55, 3) := by decide +kernel
theorem dL_law_1447 : decode code 1447 = .ok (.iconst 0, 1) := by decide +kernel
theorem dL_law_1448 : decode code 1448 = .ok (.ireturn, 1) := by decide +kernel
theorem dL_law_1449 : decode code 1449 = .ok (.aload_n 1, 1) := by decide +kernel
theorem dL_law_1450 : decode code 1450 = .ok (.invokevirtual 184, 3) := by decide +kernel
theorem dL_law_1453 : decode code 1453 = .ok (.aload_n 2, 1) := by decide +kernel
theorem dL_law_1454 : decode code 1454 = .ok (.invokevirtual 187, 3) := by decide +kernel
theorem dL_law_1457 : decode code 1457 = .ok (.if_icmp .eq 42, 3) := by decide +kernel
theorem dL_law_1460 : decode code 1460 = .ok (.iconst 0, 1) := by decide +kernel
theorem dL_law_1461 : decode code 1461 = .ok (.ireturn, 1) := by decide +kernel
theorem dL_law_1462 : decode code 1462 = .ok (.aload_n 1, 1) := by decide +kernel
theorem dL_law_1463 : decode code 1463 = .ok (.aload_n 0, 1) := by decide +kernel
theorem dL_law_1464 : decode code 1464 = .ok (.iload_n 3, 1) := by decide +kernel
theorem dL_law_1465 : decode code 1465 = .ok (.iconst 1, 1) := by decide +kernel
theorem dL_law_1466 : decode code 1466 = .ok (.iadd, 1) := by decide +kernel
theorem dL_law_1467 : decode code 1467 = .ok (.iaload, 1) := by decide +kernel
theorem dL_law_1468 : decode code 1468 = .ok (.invokevirtual 188, 3) := by decide +kernel
theorem dL_law_1471 : decode code 1471 = .ok (.aload_n 2, 1) := by decide +kernel
theorem dL_law_1472 : decode code 1472 = .ok (.aload_n 0, 1) := by decide +kernel
theorem dL_law_1473 : decode code 1473 = .ok (.iload_n 3, 1) := by decide +kernel
theorem dL_law_1474 : decode code 1474 = .ok (.iconst 1, 1) := by decide +kernel
theorem dL_law_1475 : decode code 1475 = .ok (.iadd, 1) := by decide +kernel
theorem dL_law_1476 : decode code 1476 = .ok (.iaload, 1) := by decide +kernel
theorem dL_law_1477 : decode code 1477 = .ok (.invokevirtual 191, 3) := by decide +kernel
theorem dL_law_1480 : decode code 1480 = .ok (.if_icmp .eq 19, 3) := by decide +kernel
theorem dL_law_1483 : decode code 1483 = .ok (.iconst 0, 1) := by decide +kernel
theorem dL_law_1484 : decode code 1484 = .ok (.ireturn, 1) := by decide +kernel
theorem dL_law_1485 : decode code 1485 = .ok (.aload_n 1, 1) := by decide +kernel
theorem dL_law_1486 : decode code 1486 = .ok (.invokevirtual 192, 3) := by decide +kernel
theorem dL_law_1489 : decode code 1489 = .ok (.aload_n 2, 1) := by decide +kernel
theorem dL_law_1490 : decode code 1490 = .ok (.invokevirtual 195, 3) := by decide +kernel
theorem dL_law_1493 : decode code 1493 = .ok (.lcmp, 1) := by decide +kernel
theorem dL_law_1494 : decode code 1494 = .ok (.ifCond .eq 5, 3) := by decide +kernel
theorem dL_law_1497 : decode code 1497 = .ok (.iconst 0, 1) := by decide +kernel
theorem dL_law_1498 : decode code 1498 = .ok (.ireturn, 1) := by decide +kernel
theorem dL_law_1499 : decode code 1499 = .ok (.iinc 3 6, 3) := by decide +kernel
theorem dL_law_1502 : decode code 1502 = .ok (.goto (-1484), 3) := by decide +kernel
theorem dL_law_1505 : decode code 1505 = .ok (.iconst 1, 1) := by decide +kernel
theorem dL_law_1506 : decode code 1506 = .ok (.ireturn, 1) := by decide +kernel
set_option maxHeartbeats 4000000 in
set_option maxRecDepth 100000 in
theorem lc_row {p : Program} {l : Launch} {e : Env} {s : State} {m : MethodId} {below : List Frame} {meth : Method} {c : Code} {b L : Nat} {xs : Nat → Int32} {Q : State → Prop} {gC gM : GG} {Rel : St → St → Prop} (hL : L ≤ 3072) (C0 : lw_At p s m meth c b L xs) (hKC : KS gC s) (hKM : KS gM s) (hap : ∀ i j, i < 52 → j < 25 → gC.2.1 i ≠ gM.2.1 j) (hS : ∀ (τ σ : St), Rel τ σ → ∀ (a1 a2 : Int32) , ∃ (τ' σ' : St) (r : Int32), fX10_row τ a1 a2 = some (τ', r) ∧ fX11_row σ a1 a2 = some (σ', r) ∧ Rel τ' σ') {τ σ : St} (hR : Rel τ σ) {H : Heap} {locs : List Loc} (hsC : HW 52 entC gC (fun q : Nat => s.heap.size ≤ q) s.heap H locs τ) (hsM : HW 25 entM gM (fun q : Nat => s.heap.size ≤ q) s.heap H locs σ) {i : Nat} (hi : i + 6 ≤ L) {ls : Array Slot} (hl : lv_has ls 4 [(0, .ref b), (1, .ref (gC.2.1 0)), (2, .ref (gM.2.1 0)), (3, .int (nI i))]) (kk : ∀ (τ σ : St) (H : Heap) (locs : List Loc) (ls : Array Slot), Rel τ σ → HW 52 entC gC (fun q : Nat => s.heap.size ≤ q) s.heap H locs τ → HW 25 entM gM (fun q : Nat => s.heap.size ≤ q) s.heap H locs σ → lv_has ls 4 [(0, .ref b), (1, .ref (gC.2.1 0)), (2, .ref (gM.2.1 0)), (3, .int (nI i))] → W p l e room_1 s m #[Value.ref b] below meth c H locs 600000 7302250 Q (F0 m 1499 ls [])) : W p l e room_1 s m #[Value.ref b] below meth c H locs 600000 7302250 Q (F0 m 224 ls []) := by
  have C := cf_law C0
  obtain ⟨hx, hb, hr, hml, hown, hts, hX, hbl, hlocks, hgv⟩ := id C0
  have hA : ∀ q : Nat, s.heap.size ≤ q → (fun q : Nat => s.heap.size ≤ q) q := fun _ h => h
  have hbA : ¬ (fun q : Nat => s.heap.size ≤ q) b := Nat.not_le.mpr hbl
  obtain ⟨τ1, σ1, r, hE1, hE2, hR1⟩ := hS τ σ hR (xs (nI i + 1).toNatClampNeg) (xs (nI i + 2).toNatClampNeg)
  refine lv_aload_n hx hb dL_law_224 rfl (lv_at hl 1 rfl) ?_
  refine lv_aload_n hx hb dL_law_225 rfl (lv_at hl 0 rfl) ?_
  refine lv_iload_n hx hb dL_law_226 rfl (lv_at hl 3 rfl) ?_
  refine lv_iconst (v := 1) hx hb dL_law_227 (by decide) ?_
  refine lv_iadd hx hb dL_law_228 ?_
  refine va_sld hx hb hX hbl hbA hsC.2.2 (nI_k (k := 1) hi hL (by decide)) dL_law_229 ?_
  refine lv_aload_n hx hb dL_law_230 rfl (lv_at hl 0 rfl) ?_
  refine lv_iload_n hx hb dL_law_231 rfl (lv_at hl 3 rfl) ?_
  refine lv_iconst (v := 2) hx hb dL_law_232 (by decide) ?_
  refine lv_iadd hx hb dL_law_233 ?_
  refine va_sld hx hb hX hbl hbA hsC.2.2 (nI_k (k := 2) hi hL (by decide)) dL_law_234 ?_
  refine xl_civ (As := [.int (xs (nI i + 1).toNatClampNeg), .int (xs (nI i + 2).toNatClampNeg)]) (rest := []) C hl.1 hKC hsC hA ⟨Nat.le_refl _, Nat.le_refl _⟩ (ctX10_row l gC _ _ _ _ _ hE1) (cw_L_13 C ⟨Nat.le_of_ble_eq_true rfl, Nat.le_of_ble_eq_true rfl⟩) (hsC.recv hKC 0 (by decide) rfl rfl) rfl rfl (Nat.le_of_ble_eq_true rfl) dL_law_235 (fun H1 locs1 hsC hk => ?_)
  have hsM := hsM.other (fun i j hi hj e => hap j i hj hi e.symm) hk hsC
  refine lv_aload_n hx hb dL_law_238 rfl (lv_at hl 2 rfl) ?_
  refine lv_aload_n hx hb dL_law_239 rfl (lv_at hl 0 rfl) ?_
  refine lv_iload_n hx hb dL_law_240 rfl (lv_at hl 3 rfl) ?_
  refine lv_iconst (v := 1) hx hb dL_law_241 (by decide) ?_
  refine lv_iadd hx hb dL_law_242 ?_
  refine va_sld hx hb hX hbl hbA hsC.2.2 (nI_k (k := 1) hi hL (by decide)) dL_law_243 ?_
  refine lv_aload_n hx hb dL_law_244 rfl (lv_at hl 0 rfl) ?_
  refine lv_iload_n hx hb dL_law_245 rfl (lv_at hl 3 rfl) ?_
  refine lv_iconst (v := 2) hx hb dL_law_246 (by decide) ?_
  refine lv_iadd hx hb dL_law_247 ?_
  refine va_sld hx hb hX hbl hbA hsC.2.2 (nI_k (k := 2) hi hL (by decide)) dL_law_248 ?_
  refine xl_civ (As := [.int (xs (nI i + 1).toNatClampNeg), .int (xs (nI i + 2).toNatClampNeg)]) (rest := [.int r]) C hl.1 hKM hsM hA ⟨Nat.le_refl _, Nat.le_refl _⟩ (ctX11_row l gM _ _ _ _ _ hE2) (cw_L_17 C ⟨Nat.le_of_ble_eq_true rfl, Nat.le_of_ble_eq_true rfl⟩) (hsM.recv hKM 0 (by decide) rfl rfl) rfl rfl (Nat.le_of_ble_eq_true rfl) dL_law_249 (fun H2 locs2 hsM hk => ?_)
  have hsC := hsC.other hap hk hsM
  refine lv_icmp_eq (tgt := 1499) hx hb dL_law_252 (by decide) (fun hc => ?_) (fun hc => ?_)
  · exact kk τ1 σ1 H2 locs2 ls hR1 hsC hsM hl
  · exact absurd rfl hc
set_option maxHeartbeats 4000000 in
set_option maxRecDepth 100000 in
theorem lc_lay {p : Program} {l : Launch} {e : Env} {s : State} {m : MethodId} {below : List Frame} {meth : Method} {c : Code} {b L : Nat} {xs : Nat → Int32} {Q : State → Prop} {gC gM : GG} {Rel : St → St → Prop} (hL : L ≤ 3072) (C0 : lw_At p s m meth c b L xs) (hKC : KS gC s) (hKM : KS gM s) (hap : ∀ i j, i < 52 → j < 25 → gC.2.1 i ≠ gM.2.1 j) (hS : ∀ (τ σ : St), Rel τ σ → ∀ (a1 a2 a3 : Int32) , ∃ (τ' σ' : St) (r : Int32), fX10_lay τ a1 a2 a3 = some (τ', r) ∧ fX11_lay σ a1 a2 a3 = some (σ', r) ∧ Rel τ' σ') {τ σ : St} (hR : Rel τ σ) {H : Heap} {locs : List Loc} (hsC : HW 52 entC gC (fun q : Nat => s.heap.size ≤ q) s.heap H locs τ) (hsM : HW 25 entM gM (fun q : Nat => s.heap.size ≤ q) s.heap H locs σ) {i : Nat} (hi : i + 6 ≤ L) {ls : Array Slot} (hl : lv_has ls 4 [(0, .ref b), (1, .ref (gC.2.1 0)), (2, .ref (gM.2.1 0)), (3, .int (nI i))]) (kk : ∀ (τ σ : St) (H : Heap) (locs : List Loc) (ls : Array Slot), Rel τ σ → HW 52 entC gC (fun q : Nat => s.heap.size ≤ q) s.heap H locs τ → HW 25 entM gM (fun q : Nat => s.heap.size ≤ q) s.heap H locs σ → lv_has ls 4 [(0, .ref b), (1, .ref (gC.2.1 0)), (2, .ref (gM.2.1 0)), (3, .int (nI i))] → W p l e room_1 s m #[Value.ref b] below meth c H locs 600000 7302250 Q (F0 m 1499 ls [])) : W p l e room_1 s m #[Value.ref b] below meth c H locs 600000 7302250 Q (F0 m 257 ls []) := by
  have C := cf_law C0
  obtain ⟨hx, hb, hr, hml, hown, hts, hX, hbl, hlocks, hgv⟩ := id C0
  have hA : ∀ q : Nat, s.heap.size ≤ q → (fun q : Nat => s.heap.size ≤ q) q := fun _ h => h
  have hbA : ¬ (fun q : Nat => s.heap.size ≤ q) b := Nat.not_le.mpr hbl
  obtain ⟨τ1, σ1, r, hE1, hE2, hR1⟩ := hS τ σ hR (xs (nI i + 1).toNatClampNeg) (xs (nI i + 2).toNatClampNeg) (xs (nI i + 3).toNatClampNeg)
  refine lv_aload_n hx hb dL_law_257 rfl (lv_at hl 1 rfl) ?_
  refine lv_aload_n hx hb dL_law_258 rfl (lv_at hl 0 rfl) ?_
  refine lv_iload_n hx hb dL_law_259 rfl (lv_at hl 3 rfl) ?_
  refine lv_iconst (v := 1) hx hb dL_law_260 (by decide) ?_
  refine lv_iadd hx hb dL_law_261 ?_
  refine va_sld hx hb hX hbl hbA hsC.2.2 (nI_k (k := 1) hi hL (by decide)) dL_law_262 ?_
  refine lv_aload_n hx hb dL_law_263 rfl (lv_at hl 0 rfl) ?_
  refine lv_iload_n hx hb dL_law_264 rfl (lv_at hl 3 rfl) ?_
  refine lv_iconst (v := 2) hx hb dL_law_265 (by decide) ?_
  refine lv_iadd hx hb dL_law_266 ?_
  refine va_sld hx hb hX hbl hbA hsC.2.2 (nI_k (k := 2) hi hL (by decide)) dL_law_267 ?_
  refine lv_aload_n hx hb dL_law_268 rfl (lv_at hl 0 rfl) ?_
  refine lv_iload_n hx hb dL_law_269 rfl (lv_at hl 3 rfl) ?_
  refine lv_iconst (v := 3) hx hb dL_law_270 (by decide) ?_
  refine lv_iadd hx hb dL_law_271 ?_
  refine va_sld hx hb hX hbl hbA hsC.2.2 (nI_k (k := 3) hi hL (by decide)) dL_law_272 ?_
  refine xl_civ (As := [.int (xs (nI i + 1).toNatClampNeg), .int (xs (nI i + 2).toNatClampNeg), .int (xs (nI i + 3).toNatClampNeg)]) (rest := []) C hl.1 hKC hsC hA ⟨Nat.le_refl _, Nat.le_refl _⟩ (ctX10_lay l gC _ _ _ _ _ _ hE1) (cw_L_18 C ⟨Nat.le_of_ble_eq_true rfl, Nat.le_of_ble_eq_true rfl⟩) (hsC.recv hKC 0 (by decide) rfl rfl) rfl rfl (Nat.le_of_ble_eq_true rfl) dL_law_273 (fun H1 locs1 hsC hk => ?_)
  have hsM := hsM.other (fun i j hi hj e => hap j i hj hi e.symm) hk hsC
  refine lv_aload_n hx hb dL_law_276 rfl (lv_at hl 2 rfl) ?_
  refine lv_aload_n hx hb dL_law_277 rfl (lv_at hl 0 rfl) ?_
  refine lv_iload_n hx hb dL_law_278 rfl (lv_at hl 3 rfl) ?_
  refine lv_iconst (v := 1) hx hb dL_law_279 (by decide) ?_
  refine lv_iadd hx hb dL_law_280 ?_
  refine va_sld hx hb hX hbl hbA hsC.2.2 (nI_k (k := 1) hi hL (by decide)) dL_law_281 ?_
  refine lv_aload_n hx hb dL_law_282 rfl (lv_at hl 0 rfl) ?_
  refine lv_iload_n hx hb dL_law_283 rfl (lv_at hl 3 rfl) ?_
  refine lv_iconst (v := 2) hx hb dL_law_284 (by decide) ?_
  refine lv_iadd hx hb dL_law_285 ?_
  refine va_sld hx hb hX hbl hbA hsC.2.2 (nI_k (k := 2) hi hL (by decide)) dL_law_286 ?_
  refine lv_aload_n hx hb dL_law_287 rfl (lv_at hl 0 rfl) ?_
  refine lv_iload_n hx hb dL_law_288 rfl (lv_at hl 3 rfl) ?_
  refine lv_iconst (v := 3) hx hb dL_law_289 (by decide) ?_
  refine lv_iadd hx hb dL_law_290 ?_
  refine va_sld hx hb hX hbl hbA hsC.2.2 (nI_k (k := 3) hi hL (by decide)) dL_law_291 ?_
  refine xl_civ (As := [.int (xs (nI i + 1).toNatClampNeg), .int (xs (nI i + 2).toNatClampNeg), .int (xs (nI i + 3).toNatClampNeg)]) (rest := [.int r]) C hl.1 hKM hsM hA ⟨Nat.le_refl _, Nat.le_refl _⟩ (ctX11_lay l gM _ _ _ _ _ _ hE2) (cw_L_22 C ⟨Nat.le_of_ble_eq_true rfl, Nat.le_of_ble_eq_true rfl⟩) (hsM.recv hKM 0 (by decide) rfl rfl) rfl rfl (Nat.le_of_ble_eq_true rfl) dL_law_292 (fun H2 locs2 hsM hk => ?_)
  have hsC := hsC.other hap hk hsM
  refine lv_icmp_eq (tgt := 1499) hx hb dL_law_295 (by decide) (fun hc => ?_) (fun hc => ?_)
  · exact kk τ1 σ1 H2 locs2 ls hR1 hsC hsM hl
  · exact absurd rfl hc
set_option maxHeartbeats 4000000 in
set_option maxRecDepth 100000 in
theorem lc_at {p : Program} {l : Launch} {e : Env} {s : State} {m : MethodId} {below : List Frame} {meth : Method} {c : Code} {b L : Nat} {xs : Nat → Int32} {Q : State → Prop} {gC gM : GG} {Rel : St → St → Prop} (hL : L ≤ 3072) (C0 : lw_At p s m meth c b L xs) (hKC : KS gC s) (hKM : KS gM s) (hap : ∀ i j, i < 52 → j < 25 → gC.2.1 i ≠ gM.2.1 j) (hS : ∀ (τ σ : St), Rel τ σ → ∀ (a1 a2 : Int32) , ∃ (τ' σ' : St) (r : Int32), fX10_at τ a1 a2 = some (τ', r) ∧ fX11_at σ a1 a2 = some (σ', r) ∧ Rel τ' σ') {τ σ : St} (hR : Rel τ σ) {H : Heap} {locs : List Loc} (hsC : HW 52 entC gC (fun q : Nat => s.heap.size ≤ q) s.heap H locs τ) (hsM : HW 25 entM gM (fun q : Nat => s.heap.size ≤ q) s.heap H locs σ) {i : Nat} (hi : i + 6 ≤ L) {ls : Array Slot} (hl : lv_has ls 4 [(0, .ref b), (1, .ref (gC.2.1 0)), (2, .ref (gM.2.1 0)), (3, .int (nI i))]) (kk : ∀ (τ σ : St) (H : Heap) (locs : List Loc) (ls : Array Slot), Rel τ σ → HW 52 entC gC (fun q : Nat => s.heap.size ≤ q) s.heap H locs τ → HW 25 entM gM (fun q : Nat => s.heap.size ≤ q) s.heap H locs σ → lv_has ls 4 [(0, .ref b), (1, .ref (gC.2.1 0)), (2, .ref (gM.2.1 0)), (3, .int (nI i))] → W p l e room_1 s m #[Value.ref b] below meth c H locs 600000 7302250 Q (F0 m 1499 ls [])) : W p l e room_1 s m #[Value.ref b] below meth c H locs 600000 7302250 Q (F0 m 300 ls []) := by
  have C := cf_law C0
  obtain ⟨hx, hb, hr, hml, hown, hts, hX, hbl, hlocks, hgv⟩ := id C0
  have hA : ∀ q : Nat, s.heap.size ≤ q → (fun q : Nat => s.heap.size ≤ q) q := fun _ h => h
  have hbA : ¬ (fun q : Nat => s.heap.size ≤ q) b := Nat.not_le.mpr hbl
  obtain ⟨τ1, σ1, r, hE1, hE2, hR1⟩ := hS τ σ hR (xs (nI i + 1).toNatClampNeg) (xs (nI i + 2).toNatClampNeg)
  refine lv_aload_n hx hb dL_law_300 rfl (lv_at hl 1 rfl) ?_
  refine lv_aload_n hx hb dL_law_301 rfl (lv_at hl 0 rfl) ?_
  refine lv_iload_n hx hb dL_law_302 rfl (lv_at hl 3 rfl) ?_
  refine lv_iconst (v := 1) hx hb dL_law_303 (by decide) ?_
  refine lv_iadd hx hb dL_law_304 ?_
  refine va_sld hx hb hX hbl hbA hsC.2.2 (nI_k (k := 1) hi hL (by decide)) dL_law_305 ?_
  refine lv_aload_n hx hb dL_law_306 rfl (lv_at hl 0 rfl) ?_
  refine lv_iload_n hx hb dL_law_307 rfl (lv_at hl 3 rfl) ?_
  refine lv_iconst (v := 2) hx hb dL_law_308 (by decide) ?_
  refine lv_iadd hx hb dL_law_309 ?_
  refine va_sld hx hb hX hbl hbA hsC.2.2 (nI_k (k := 2) hi hL (by decide)) dL_law_310 ?_
  refine xl_civ (As := [.int (xs (nI i + 1).toNatClampNeg), .int (xs (nI i + 2).toNatClampNeg)]) (rest := []) C hl.1 hKC hsC hA ⟨Nat.le_refl _, Nat.le_refl _⟩ (ctX10_at l gC _ _ _ _ _ hE1) (cw_L_23 C ⟨Nat.le_of_ble_eq_true rfl, Nat.le_of_ble_eq_true rfl⟩) (hsC.recv hKC 0 (by decide) rfl rfl) rfl rfl (Nat.le_of_ble_eq_true rfl) dL_law_311 (fun H1 locs1 hsC hk => ?_)
  have hsM := hsM.other (fun i j hi hj e => hap j i hj hi e.symm) hk hsC
  refine lv_aload_n hx hb dL_law_314 rfl (lv_at hl 2 rfl) ?_
  refine lv_aload_n hx hb dL_law_315 rfl (lv_at hl 0 rfl) ?_
  refine lv_iload_n hx hb dL_law_316 rfl (lv_at hl 3 rfl) ?_
  refine lv_iconst (v := 1) hx hb dL_law_317 (by decide) ?_
  refine lv_iadd hx hb dL_law_318 ?_
  refine va_sld hx hb hX hbl hbA hsC.2.2 (nI_k (k := 1) hi hL (by decide)) dL_law_319 ?_
  refine lv_aload_n hx hb dL_law_320 rfl (lv_at hl 0 rfl) ?_
  refine lv_iload_n hx hb dL_law_321 rfl (lv_at hl 3 rfl) ?_
  refine lv_iconst (v := 2) hx hb dL_law_322 (by decide) ?_
  refine lv_iadd hx hb dL_law_323 ?_
  refine va_sld hx hb hX hbl hbA hsC.2.2 (nI_k (k := 2) hi hL (by decide)) dL_law_324 ?_
  refine xl_civ (As := [.int (xs (nI i + 1).toNatClampNeg), .int (xs (nI i + 2).toNatClampNeg)]) (rest := [.int r]) C hl.1 hKM hsM hA ⟨Nat.le_refl _, Nat.le_refl _⟩ (ctX11_at l gM _ _ _ _ _ hE2) (cw_L_26 C ⟨Nat.le_of_ble_eq_true rfl, Nat.le_of_ble_eq_true rfl⟩) (hsM.recv hKM 0 (by decide) rfl rfl) rfl rfl (Nat.le_of_ble_eq_true rfl) dL_law_325 (fun H2 locs2 hsM hk => ?_)
  have hsC := hsC.other hap hk hsM
  refine lv_icmp_eq (tgt := 1499) hx hb dL_law_328 (by decide) (fun hc => ?_) (fun hc => ?_)
  · exact kk τ1 σ1 H2 locs2 ls hR1 hsC hsM hl
  · exact absurd rfl hc
set_option maxHeartbeats 4000000 in
set_option maxRecDepth 100000 in
theorem lc_tear {p : Program} {l : Launch} {e : Env} {s : State} {m : MethodId} {below : List Frame} {meth : Method} {c : Code} {b L : Nat} {xs : Nat → Int32} {Q : State → Prop} {gC gM : GG} {Rel : St → St → Prop} (hL : L ≤ 3072) (C0 : lw_At p s m meth c b L xs) (hKC : KS gC s) (hKM : KS gM s) (hap : ∀ i j, i < 52 → j < 25 → gC.2.1 i ≠ gM.2.1 j) (hS : ∀ (τ σ : St), Rel τ σ → ∀ (a1 : Int32) , ∃ (τ' σ' : St) (r : Int32), fX10_tear τ a1 = some (τ', r) ∧ fX11_tear σ a1 = some (σ', r) ∧ Rel τ' σ') {τ σ : St} (hR : Rel τ σ) {H : Heap} {locs : List Loc} (hsC : HW 52 entC gC (fun q : Nat => s.heap.size ≤ q) s.heap H locs τ) (hsM : HW 25 entM gM (fun q : Nat => s.heap.size ≤ q) s.heap H locs σ) {i : Nat} (hi : i + 6 ≤ L) {ls : Array Slot} (hl : lv_has ls 4 [(0, .ref b), (1, .ref (gC.2.1 0)), (2, .ref (gM.2.1 0)), (3, .int (nI i))]) (kk : ∀ (τ σ : St) (H : Heap) (locs : List Loc) (ls : Array Slot), Rel τ σ → HW 52 entC gC (fun q : Nat => s.heap.size ≤ q) s.heap H locs τ → HW 25 entM gM (fun q : Nat => s.heap.size ≤ q) s.heap H locs σ → lv_has ls 4 [(0, .ref b), (1, .ref (gC.2.1 0)), (2, .ref (gM.2.1 0)), (3, .int (nI i))] → W p l e room_1 s m #[Value.ref b] below meth c H locs 600000 7302250 Q (F0 m 1499 ls [])) : W p l e room_1 s m #[Value.ref b] below meth c H locs 600000 7302250 Q (F0 m 333 ls []) := by
  have C := cf_law C0
  obtain ⟨hx, hb, hr, hml, hown, hts, hX, hbl, hlocks, hgv⟩ := id C0
  have hA : ∀ q : Nat, s.heap.size ≤ q → (fun q : Nat => s.heap.size ≤ q) q := fun _ h => h
  have hbA : ¬ (fun q : Nat => s.heap.size ≤ q) b := Nat.not_le.mpr hbl
  obtain ⟨τ1, σ1, r, hE1, hE2, hR1⟩ := hS τ σ hR (xs (nI i + 1).toNatClampNeg)
  refine lv_aload_n hx hb dL_law_333 rfl (lv_at hl 1 rfl) ?_
  refine lv_aload_n hx hb dL_law_334 rfl (lv_at hl 0 rfl) ?_
  refine lv_iload_n hx hb dL_law_335 rfl (lv_at hl 3 rfl) ?_
  refine lv_iconst (v := 1) hx hb dL_law_336 (by decide) ?_
  refine lv_iadd hx hb dL_law_337 ?_
  refine va_sld hx hb hX hbl hbA hsC.2.2 (nI_k (k := 1) hi hL (by decide)) dL_law_338 ?_
  refine xl_civ (As := [.int (xs (nI i + 1).toNatClampNeg)]) (rest := []) C hl.1 hKC hsC hA ⟨Nat.le_refl _, Nat.le_refl _⟩ (ctX10_tear l gC _ _ _ _ hE1) (cw_L_27 C ⟨Nat.le_of_ble_eq_true rfl, Nat.le_of_ble_eq_true rfl⟩) (hsC.recv hKC 0 (by decide) rfl rfl) rfl rfl (Nat.le_of_ble_eq_true rfl) dL_law_339 (fun H1 locs1 hsC hk => ?_)
  have hsM := hsM.other (fun i j hi hj e => hap j i hj hi e.symm) hk hsC
  refine lv_aload_n hx hb dL_law_342 rfl (lv_at hl 2 rfl) ?_
  refine lv_aload_n hx hb dL_law_343 rfl (lv_at hl 0 rfl) ?_
  refine lv_iload_n hx hb dL_law_344 rfl (lv_at hl 3 rfl) ?_
  refine lv_iconst (v := 1) hx hb dL_law_345 (by decide) ?_
  refine lv_iadd hx hb dL_law_346 ?_
  refine va_sld hx hb hX hbl hbA hsC.2.2 (nI_k (k := 1) hi hL (by decide)) dL_law_347 ?_
  refine xl_civ (As := [.int (xs (nI i + 1).toNatClampNeg)]) (rest := [.int r]) C hl.1 hKM hsM hA ⟨Nat.le_refl _, Nat.le_refl _⟩ (ctX11_tear l gM _ _ _ _ hE2) (cw_L_31 C ⟨Nat.le_of_ble_eq_true rfl, Nat.le_of_ble_eq_true rfl⟩) (hsM.recv hKM 0 (by decide) rfl rfl) rfl rfl (Nat.le_of_ble_eq_true rfl) dL_law_348 (fun H2 locs2 hsM hk => ?_)
  have hsC := hsC.other hap hk hsM
  refine lv_icmp_eq (tgt := 1499) hx hb dL_law_351 (by decide) (fun hc => ?_) (fun hc => ?_)
  · exact kk τ1 σ1 H2 locs2 ls hR1 hsC hsM hl
  · exact absurd rfl hc
set_option maxHeartbeats 4000000 in
set_option maxRecDepth 100000 in
theorem lc_copy {p : Program} {l : Launch} {e : Env} {s : State} {m : MethodId} {below : List Frame} {meth : Method} {c : Code} {b L : Nat} {xs : Nat → Int32} {Q : State → Prop} {gC gM : GG} {Rel : St → St → Prop} (hL : L ≤ 3072) (C0 : lw_At p s m meth c b L xs) (hKC : KS gC s) (hKM : KS gM s) (hap : ∀ i j, i < 52 → j < 25 → gC.2.1 i ≠ gM.2.1 j) (hS : ∀ (τ σ : St), Rel τ σ → ∀ (a1 a2 a3 a4 a5 : Int32) , ∃ (τ' σ' : St) (r : Int32), fX10_copy τ a1 a2 a3 a4 a5 = some (τ', r) ∧ fX11_copy σ a1 a2 a3 a4 a5 = some (σ', r) ∧ Rel τ' σ') {τ σ : St} (hR : Rel τ σ) {H : Heap} {locs : List Loc} (hsC : HW 52 entC gC (fun q : Nat => s.heap.size ≤ q) s.heap H locs τ) (hsM : HW 25 entM gM (fun q : Nat => s.heap.size ≤ q) s.heap H locs σ) {i : Nat} (hi : i + 6 ≤ L) {ls : Array Slot} (hl : lv_has ls 4 [(0, .ref b), (1, .ref (gC.2.1 0)), (2, .ref (gM.2.1 0)), (3, .int (nI i))]) (kk : ∀ (τ σ : St) (H : Heap) (locs : List Loc) (ls : Array Slot), Rel τ σ → HW 52 entC gC (fun q : Nat => s.heap.size ≤ q) s.heap H locs τ → HW 25 entM gM (fun q : Nat => s.heap.size ≤ q) s.heap H locs σ → lv_has ls 4 [(0, .ref b), (1, .ref (gC.2.1 0)), (2, .ref (gM.2.1 0)), (3, .int (nI i))] → W p l e room_1 s m #[Value.ref b] below meth c H locs 600000 7302250 Q (F0 m 1499 ls [])) : W p l e room_1 s m #[Value.ref b] below meth c H locs 600000 7302250 Q (F0 m 356 ls []) := by
  have C := cf_law C0
  obtain ⟨hx, hb, hr, hml, hown, hts, hX, hbl, hlocks, hgv⟩ := id C0
  have hA : ∀ q : Nat, s.heap.size ≤ q → (fun q : Nat => s.heap.size ≤ q) q := fun _ h => h
  have hbA : ¬ (fun q : Nat => s.heap.size ≤ q) b := Nat.not_le.mpr hbl
  obtain ⟨τ1, σ1, r, hE1, hE2, hR1⟩ := hS τ σ hR (xs (nI i + 1).toNatClampNeg) (xs (nI i + 2).toNatClampNeg) (xs (nI i + 3).toNatClampNeg) (xs (nI i + 4).toNatClampNeg) (xs (nI i + 5).toNatClampNeg)
  refine lv_aload_n hx hb dL_law_356 rfl (lv_at hl 1 rfl) ?_
  refine lv_aload_n hx hb dL_law_357 rfl (lv_at hl 0 rfl) ?_
  refine lv_iload_n hx hb dL_law_358 rfl (lv_at hl 3 rfl) ?_
  refine lv_iconst (v := 1) hx hb dL_law_359 (by decide) ?_
  refine lv_iadd hx hb dL_law_360 ?_
  refine va_sld hx hb hX hbl hbA hsC.2.2 (nI_k (k := 1) hi hL (by decide)) dL_law_361 ?_
  refine lv_aload_n hx hb dL_law_362 rfl (lv_at hl 0 rfl) ?_
  refine lv_iload_n hx hb dL_law_363 rfl (lv_at hl 3 rfl) ?_
  refine lv_iconst (v := 2) hx hb dL_law_364 (by decide) ?_
  refine lv_iadd hx hb dL_law_365 ?_
  refine va_sld hx hb hX hbl hbA hsC.2.2 (nI_k (k := 2) hi hL (by decide)) dL_law_366 ?_
  refine lv_aload_n hx hb dL_law_367 rfl (lv_at hl 0 rfl) ?_
  refine lv_iload_n hx hb dL_law_368 rfl (lv_at hl 3 rfl) ?_
  refine lv_iconst (v := 3) hx hb dL_law_369 (by decide) ?_
  refine lv_iadd hx hb dL_law_370 ?_
  refine va_sld hx hb hX hbl hbA hsC.2.2 (nI_k (k := 3) hi hL (by decide)) dL_law_371 ?_
  refine lv_aload_n hx hb dL_law_372 rfl (lv_at hl 0 rfl) ?_
  refine lv_iload_n hx hb dL_law_373 rfl (lv_at hl 3 rfl) ?_
  refine lv_iconst (v := 4) hx hb dL_law_374 (by decide) ?_
  refine lv_iadd hx hb dL_law_375 ?_
  refine va_sld hx hb hX hbl hbA hsC.2.2 (nI_k (k := 4) hi hL (by decide)) dL_law_376 ?_
  refine lv_aload_n hx hb dL_law_377 rfl (lv_at hl 0 rfl) ?_
  refine lv_iload_n hx hb dL_law_378 rfl (lv_at hl 3 rfl) ?_
  refine lv_iconst (v := 5) hx hb dL_law_379 (by decide) ?_
  refine lv_iadd hx hb dL_law_380 ?_
  refine va_sld hx hb hX hbl hbA hsC.2.2 (nI_k (k := 5) hi hL (by decide)) dL_law_381 ?_
  refine xl_civ (As := [.int (xs (nI i + 1).toNatClampNeg), .int (xs (nI i + 2).toNatClampNeg), .int (xs (nI i + 3).toNatClampNeg), .int (xs (nI i + 4).toNatClampNeg), .int (xs (nI i + 5).toNatClampNeg)]) (rest := []) C hl.1 hKC hsC hA ⟨Nat.le_refl _, Nat.le_refl _⟩ (ctX10_copy l gC _ _ _ _ _ _ _ _ hE1) (cw_L_32 C ⟨Nat.le_of_ble_eq_true rfl, Nat.le_of_ble_eq_true rfl⟩) (hsC.recv hKC 0 (by decide) rfl rfl) rfl rfl (Nat.le_of_ble_eq_true rfl) dL_law_382 (fun H1 locs1 hsC hk => ?_)
  have hsM := hsM.other (fun i j hi hj e => hap j i hj hi e.symm) hk hsC
  refine lv_aload_n hx hb dL_law_385 rfl (lv_at hl 2 rfl) ?_
  refine lv_aload_n hx hb dL_law_386 rfl (lv_at hl 0 rfl) ?_
  refine lv_iload_n hx hb dL_law_387 rfl (lv_at hl 3 rfl) ?_
  refine lv_iconst (v := 1) hx hb dL_law_388 (by decide) ?_
  refine lv_iadd hx hb dL_law_389 ?_
  refine va_sld hx hb hX hbl hbA hsC.2.2 (nI_k (k := 1) hi hL (by decide)) dL_law_390 ?_
  refine lv_aload_n hx hb dL_law_391 rfl (lv_at hl 0 rfl) ?_
  refine lv_iload_n hx hb dL_law_392 rfl (lv_at hl 3 rfl) ?_
  refine lv_iconst (v := 2) hx hb dL_law_393 (by decide) ?_
  refine lv_iadd hx hb dL_law_394 ?_
  refine va_sld hx hb hX hbl hbA hsC.2.2 (nI_k (k := 2) hi hL (by decide)) dL_law_395 ?_
  refine lv_aload_n hx hb dL_law_396 rfl (lv_at hl 0 rfl) ?_
  refine lv_iload_n hx hb dL_law_397 rfl (lv_at hl 3 rfl) ?_
  refine lv_iconst (v := 3) hx hb dL_law_398 (by decide) ?_
  refine lv_iadd hx hb dL_law_399 ?_
  refine va_sld hx hb hX hbl hbA hsC.2.2 (nI_k (k := 3) hi hL (by decide)) dL_law_400 ?_
  refine lv_aload_n hx hb dL_law_401 rfl (lv_at hl 0 rfl) ?_
  refine lv_iload_n hx hb dL_law_402 rfl (lv_at hl 3 rfl) ?_
  refine lv_iconst (v := 4) hx hb dL_law_403 (by decide) ?_
  refine lv_iadd hx hb dL_law_404 ?_
  refine va_sld hx hb hX hbl hbA hsC.2.2 (nI_k (k := 4) hi hL (by decide)) dL_law_405 ?_
  refine lv_aload_n hx hb dL_law_406 rfl (lv_at hl 0 rfl) ?_
  refine lv_iload_n hx hb dL_law_407 rfl (lv_at hl 3 rfl) ?_
  refine lv_iconst (v := 5) hx hb dL_law_408 (by decide) ?_
  refine lv_iadd hx hb dL_law_409 ?_
  refine va_sld hx hb hX hbl hbA hsC.2.2 (nI_k (k := 5) hi hL (by decide)) dL_law_410 ?_
  refine xl_civ (As := [.int (xs (nI i + 1).toNatClampNeg), .int (xs (nI i + 2).toNatClampNeg), .int (xs (nI i + 3).toNatClampNeg), .int (xs (nI i + 4).toNatClampNeg), .int (xs (nI i + 5).toNatClampNeg)]) (rest := [.int r]) C hl.1 hKM hsM hA ⟨Nat.le_refl _, Nat.le_refl _⟩ (ctX11_copy l gM _ _ _ _ _ _ _ _ hE2) (cw_L_36 C ⟨Nat.le_of_ble_eq_true rfl, Nat.le_of_ble_eq_true rfl⟩) (hsM.recv hKM 0 (by decide) rfl rfl) rfl rfl (Nat.le_of_ble_eq_true rfl) dL_law_411 (fun H2 locs2 hsM hk => ?_)
  have hsC := hsC.other hap hk hsM
  refine lv_icmp_eq (tgt := 1499) hx hb dL_law_414 (by decide) (fun hc => ?_) (fun hc => ?_)
  · exact kk τ1 σ1 H2 locs2 ls hR1 hsC hsM hl
  · exact absurd rfl hc
set_option maxHeartbeats 4000000 in
set_option maxRecDepth 100000 in
theorem lc_mean {p : Program} {l : Launch} {e : Env} {s : State} {m : MethodId} {below : List Frame} {meth : Method} {c : Code} {b L : Nat} {xs : Nat → Int32} {Q : State → Prop} {gC gM : GG} {Rel : St → St → Prop} (hL : L ≤ 3072) (C0 : lw_At p s m meth c b L xs) (hKC : KS gC s) (hKM : KS gM s) (hap : ∀ i j, i < 52 → j < 25 → gC.2.1 i ≠ gM.2.1 j) (hS : ∀ (τ σ : St), Rel τ σ → ∀ (a1 : Int32) , ∃ (τ' σ' : St) (r : Int32), fX10_mean τ a1 = some (τ', r) ∧ fX11_mean σ a1 = some (σ', r) ∧ Rel τ' σ') {τ σ : St} (hR : Rel τ σ) {H : Heap} {locs : List Loc} (hsC : HW 52 entC gC (fun q : Nat => s.heap.size ≤ q) s.heap H locs τ) (hsM : HW 25 entM gM (fun q : Nat => s.heap.size ≤ q) s.heap H locs σ) {i : Nat} (hi : i + 6 ≤ L) {ls : Array Slot} (hl : lv_has ls 4 [(0, .ref b), (1, .ref (gC.2.1 0)), (2, .ref (gM.2.1 0)), (3, .int (nI i))]) (kk : ∀ (τ σ : St) (H : Heap) (locs : List Loc) (ls : Array Slot), Rel τ σ → HW 52 entC gC (fun q : Nat => s.heap.size ≤ q) s.heap H locs τ → HW 25 entM gM (fun q : Nat => s.heap.size ≤ q) s.heap H locs σ → lv_has ls 4 [(0, .ref b), (1, .ref (gC.2.1 0)), (2, .ref (gM.2.1 0)), (3, .int (nI i))] → W p l e room_1 s m #[Value.ref b] below meth c H locs 600000 7302250 Q (F0 m 1499 ls [])) : W p l e room_1 s m #[Value.ref b] below meth c H locs 600000 7302250 Q (F0 m 419 ls []) := by
  have C := cf_law C0
  obtain ⟨hx, hb, hr, hml, hown, hts, hX, hbl, hlocks, hgv⟩ := id C0
  have hA : ∀ q : Nat, s.heap.size ≤ q → (fun q : Nat => s.heap.size ≤ q) q := fun _ h => h
  have hbA : ¬ (fun q : Nat => s.heap.size ≤ q) b := Nat.not_le.mpr hbl
  obtain ⟨τ1, σ1, r, hE1, hE2, hR1⟩ := hS τ σ hR (xs (nI i + 1).toNatClampNeg)
  refine lv_aload_n hx hb dL_law_419 rfl (lv_at hl 1 rfl) ?_
  refine lv_aload_n hx hb dL_law_420 rfl (lv_at hl 0 rfl) ?_
  refine lv_iload_n hx hb dL_law_421 rfl (lv_at hl 3 rfl) ?_
  refine lv_iconst (v := 1) hx hb dL_law_422 (by decide) ?_
  refine lv_iadd hx hb dL_law_423 ?_
  refine va_sld hx hb hX hbl hbA hsC.2.2 (nI_k (k := 1) hi hL (by decide)) dL_law_424 ?_
  refine xl_civ (As := [.int (xs (nI i + 1).toNatClampNeg)]) (rest := []) C hl.1 hKC hsC hA ⟨Nat.le_refl _, Nat.le_refl _⟩ (ctX10_mean l gC _ _ _ _ hE1) (cw_L_37 C ⟨Nat.le_of_ble_eq_true rfl, Nat.le_of_ble_eq_true rfl⟩) (hsC.recv hKC 0 (by decide) rfl rfl) rfl rfl (Nat.le_of_ble_eq_true rfl) dL_law_425 (fun H1 locs1 hsC hk => ?_)
  have hsM := hsM.other (fun i j hi hj e => hap j i hj hi e.symm) hk hsC
  refine lv_aload_n hx hb dL_law_428 rfl (lv_at hl 2 rfl) ?_
  refine lv_aload_n hx hb dL_law_429 rfl (lv_at hl 0 rfl) ?_
  refine lv_iload_n hx hb dL_law_430 rfl (lv_at hl 3 rfl) ?_
  refine lv_iconst (v := 1) hx hb dL_law_431 (by decide) ?_
  refine lv_iadd hx hb dL_law_432 ?_
  refine va_sld hx hb hX hbl hbA hsC.2.2 (nI_k (k := 1) hi hL (by decide)) dL_law_433 ?_
  refine xl_civ (As := [.int (xs (nI i + 1).toNatClampNeg)]) (rest := [.int r]) C hl.1 hKM hsM hA ⟨Nat.le_refl _, Nat.le_refl _⟩ (ctX11_mean l gM _ _ _ _ hE2) (cw_L_40 C ⟨Nat.le_of_ble_eq_true rfl, Nat.le_of_ble_eq_true rfl⟩) (hsM.recv hKM 0 (by decide) rfl rfl) rfl rfl (Nat.le_of_ble_eq_true rfl) dL_law_434 (fun H2 locs2 hsM hk => ?_)
  have hsC := hsC.other hap hk hsM
  refine lv_icmp_eq (tgt := 1499) hx hb dL_law_437 (by decide) (fun hc => ?_) (fun hc => ?_)
  · exact kk τ1 σ1 H2 locs2 ls hR1 hsC hsM hl
  · exact absurd rfl hc
set_option maxHeartbeats 4000000 in
set_option maxRecDepth 100000 in
theorem lc_text {p : Program} {l : Launch} {e : Env} {s : State} {m : MethodId} {below : List Frame} {meth : Method} {c : Code} {b L : Nat} {xs : Nat → Int32} {Q : State → Prop} {gC gM : GG} {Rel : St → St → Prop} (hL : L ≤ 3072) (C0 : lw_At p s m meth c b L xs) (hKC : KS gC s) (hKM : KS gM s) (hap : ∀ i j, i < 52 → j < 25 → gC.2.1 i ≠ gM.2.1 j) (hS : ∀ (τ σ : St), Rel τ σ → ∀ (a1 a2 : Int32) , ∃ (τ' σ' : St) (r : Int32), fX10_text τ a1 a2 = some (τ', r) ∧ fX11_text σ a1 a2 = some (σ', r) ∧ Rel τ' σ') {τ σ : St} (hR : Rel τ σ) {H : Heap} {locs : List Loc} (hsC : HW 52 entC gC (fun q : Nat => s.heap.size ≤ q) s.heap H locs τ) (hsM : HW 25 entM gM (fun q : Nat => s.heap.size ≤ q) s.heap H locs σ) {i : Nat} (hi : i + 6 ≤ L) {ls : Array Slot} (hl : lv_has ls 4 [(0, .ref b), (1, .ref (gC.2.1 0)), (2, .ref (gM.2.1 0)), (3, .int (nI i))]) (kk : ∀ (τ σ : St) (H : Heap) (locs : List Loc) (ls : Array Slot), Rel τ σ → HW 52 entC gC (fun q : Nat => s.heap.size ≤ q) s.heap H locs τ → HW 25 entM gM (fun q : Nat => s.heap.size ≤ q) s.heap H locs σ → lv_has ls 4 [(0, .ref b), (1, .ref (gC.2.1 0)), (2, .ref (gM.2.1 0)), (3, .int (nI i))] → W p l e room_1 s m #[Value.ref b] below meth c H locs 600000 7302250 Q (F0 m 1499 ls [])) : W p l e room_1 s m #[Value.ref b] below meth c H locs 600000 7302250 Q (F0 m 442 ls []) := by
  have C := cf_law C0
  obtain ⟨hx, hb, hr, hml, hown, hts, hX, hbl, hlocks, hgv⟩ := id C0
  have hA : ∀ q : Nat, s.heap.size ≤ q → (fun q : Nat => s.heap.size ≤ q) q := fun _ h => h
  have hbA : ¬ (fun q : Nat => s.heap.size ≤ q) b := Nat.not_le.mpr hbl
  obtain ⟨τ1, σ1, r, hE1, hE2, hR1⟩ := hS τ σ hR (xs (nI i + 1).toNatClampNeg) (xs (nI i + 2).toNatClampNeg)
  refine lv_aload_n hx hb dL_law_442 rfl (lv_at hl 1 rfl) ?_
  refine lv_aload_n hx hb dL_law_443 rfl (lv_at hl 0 rfl) ?_
  refine lv_iload_n hx hb dL_law_444 rfl (lv_at hl 3 rfl) ?_
  refine lv_iconst (v := 1) hx hb dL_law_445 (by decide) ?_
  refine lv_iadd hx hb dL_law_446 ?_
  refine va_sld hx hb hX hbl hbA hsC.2.2 (nI_k (k := 1) hi hL (by decide)) dL_law_447 ?_
  refine lv_aload_n hx hb dL_law_448 rfl (lv_at hl 0 rfl) ?_
  refine lv_iload_n hx hb dL_law_449 rfl (lv_at hl 3 rfl) ?_
  refine lv_iconst (v := 2) hx hb dL_law_450 (by decide) ?_
  refine lv_iadd hx hb dL_law_451 ?_
  refine va_sld hx hb hX hbl hbA hsC.2.2 (nI_k (k := 2) hi hL (by decide)) dL_law_452 ?_
  refine xl_civ (As := [.int (xs (nI i + 1).toNatClampNeg), .int (xs (nI i + 2).toNatClampNeg)]) (rest := []) C hl.1 hKC hsC hA ⟨Nat.le_refl _, Nat.le_refl _⟩ (ctX10_text l gC _ _ _ _ _ hE1) (cw_L_41 C ⟨Nat.le_of_ble_eq_true rfl, Nat.le_of_ble_eq_true rfl⟩) (hsC.recv hKC 0 (by decide) rfl rfl) rfl rfl (Nat.le_of_ble_eq_true rfl) dL_law_453 (fun H1 locs1 hsC hk => ?_)
  have hsM := hsM.other (fun i j hi hj e => hap j i hj hi e.symm) hk hsC
  refine lv_aload_n hx hb dL_law_456 rfl (lv_at hl 2 rfl) ?_
  refine lv_aload_n hx hb dL_law_457 rfl (lv_at hl 0 rfl) ?_
  refine lv_iload_n hx hb dL_law_458 rfl (lv_at hl 3 rfl) ?_
  refine lv_iconst (v := 1) hx hb dL_law_459 (by decide) ?_
  refine lv_iadd hx hb dL_law_460 ?_
  refine va_sld hx hb hX hbl hbA hsC.2.2 (nI_k (k := 1) hi hL (by decide)) dL_law_461 ?_
  refine lv_aload_n hx hb dL_law_462 rfl (lv_at hl 0 rfl) ?_
  refine lv_iload_n hx hb dL_law_463 rfl (lv_at hl 3 rfl) ?_
  refine lv_iconst (v := 2) hx hb dL_law_464 (by decide) ?_
  refine lv_iadd hx hb dL_law_465 ?_
  refine va_sld hx hb hX hbl hbA hsC.2.2 (nI_k (k := 2) hi hL (by decide)) dL_law_466 ?_
  refine xl_civ (As := [.int (xs (nI i + 1).toNatClampNeg), .int (xs (nI i + 2).toNatClampNeg)]) (rest := [.int r]) C hl.1 hKM hsM hA ⟨Nat.le_refl _, Nat.le_refl _⟩ (ctX11_text l gM _ _ _ _ _ hE2) (cw_L_44 C ⟨Nat.le_of_ble_eq_true rfl, Nat.le_of_ble_eq_true rfl⟩) (hsM.recv hKM 0 (by decide) rfl rfl) rfl rfl (Nat.le_of_ble_eq_true rfl) dL_law_467 (fun H2 locs2 hsM hk => ?_)
  have hsC := hsC.other hap hk hsM
  refine lv_icmp_eq (tgt := 1499) hx hb dL_law_470 (by decide) (fun hc => ?_) (fun hc => ?_)
  · exact kk τ1 σ1 H2 locs2 ls hR1 hsC hsM hl
  · exact absurd rfl hc
set_option maxHeartbeats 4000000 in
set_option maxRecDepth 100000 in
theorem lc_put {p : Program} {l : Launch} {e : Env} {s : State} {m : MethodId} {below : List Frame} {meth : Method} {c : Code} {b L : Nat} {xs : Nat → Int32} {Q : State → Prop} {gC gM : GG} {Rel : St → St → Prop} (hL : L ≤ 3072) (C0 : lw_At p s m meth c b L xs) (hKC : KS gC s) (hKM : KS gM s) (hap : ∀ i j, i < 52 → j < 25 → gC.2.1 i ≠ gM.2.1 j) (hS : ∀ (τ σ : St), Rel τ σ → ∀ (a1 a2 a3 : Int32) , ∃ (τ' σ' : St) (r : Int32), fX10_put τ a1 a2 a3 = some (τ', r) ∧ fX11_put σ a1 a2 a3 = some (σ', r) ∧ Rel τ' σ') {τ σ : St} (hR : Rel τ σ) {H : Heap} {locs : List Loc} (hsC : HW 52 entC gC (fun q : Nat => s.heap.size ≤ q) s.heap H locs τ) (hsM : HW 25 entM gM (fun q : Nat => s.heap.size ≤ q) s.heap H locs σ) {i : Nat} (hi : i + 6 ≤ L) {ls : Array Slot} (hl : lv_has ls 4 [(0, .ref b), (1, .ref (gC.2.1 0)), (2, .ref (gM.2.1 0)), (3, .int (nI i))]) (kk : ∀ (τ σ : St) (H : Heap) (locs : List Loc) (ls : Array Slot), Rel τ σ → HW 52 entC gC (fun q : Nat => s.heap.size ≤ q) s.heap H locs τ → HW 25 entM gM (fun q : Nat => s.heap.size ≤ q) s.heap H locs σ → lv_has ls 4 [(0, .ref b), (1, .ref (gC.2.1 0)), (2, .ref (gM.2.1 0)), (3, .int (nI i))] → W p l e room_1 s m #[Value.ref b] below meth c H locs 600000 7302250 Q (F0 m 1499 ls [])) : W p l e room_1 s m #[Value.ref b] below meth c H locs 600000 7302250 Q (F0 m 475 ls []) := by
  have C := cf_law C0
  obtain ⟨hx, hb, hr, hml, hown, hts, hX, hbl, hlocks, hgv⟩ := id C0
  have hA : ∀ q : Nat, s.heap.size ≤ q → (fun q : Nat => s.heap.size ≤ q) q := fun _ h => h
  have hbA : ¬ (fun q : Nat => s.heap.size ≤ q) b := Nat.not_le.mpr hbl
  obtain ⟨τ1, σ1, r, hE1, hE2, hR1⟩ := hS τ σ hR (xs (nI i + 1).toNatClampNeg) (xs (nI i + 2).toNatClampNeg) (xs (nI i + 3).toNatClampNeg)
  refine lv_aload_n hx hb dL_law_475 rfl (lv_at hl 1 rfl) ?_
  refine lv_aload_n hx hb dL_law_476 rfl (lv_at hl 0 rfl) ?_
  refine lv_iload_n hx hb dL_law_477 rfl (lv_at hl 3 rfl) ?_
  refine lv_iconst (v := 1) hx hb dL_law_478 (by decide) ?_
  refine lv_iadd hx hb dL_law_479 ?_
  refine va_sld hx hb hX hbl hbA hsC.2.2 (nI_k (k := 1) hi hL (by decide)) dL_law_480 ?_
  refine lv_aload_n hx hb dL_law_481 rfl (lv_at hl 0 rfl) ?_
  refine lv_iload_n hx hb dL_law_482 rfl (lv_at hl 3 rfl) ?_
  refine lv_iconst (v := 2) hx hb dL_law_483 (by decide) ?_
  refine lv_iadd hx hb dL_law_484 ?_
  refine va_sld hx hb hX hbl hbA hsC.2.2 (nI_k (k := 2) hi hL (by decide)) dL_law_485 ?_
  refine lv_aload_n hx hb dL_law_486 rfl (lv_at hl 0 rfl) ?_
  refine lv_iload_n hx hb dL_law_487 rfl (lv_at hl 3 rfl) ?_
  refine lv_iconst (v := 3) hx hb dL_law_488 (by decide) ?_
  refine lv_iadd hx hb dL_law_489 ?_
  refine va_sld hx hb hX hbl hbA hsC.2.2 (nI_k (k := 3) hi hL (by decide)) dL_law_490 ?_
  refine xl_civ (As := [.int (xs (nI i + 1).toNatClampNeg), .int (xs (nI i + 2).toNatClampNeg), .int (xs (nI i + 3).toNatClampNeg)]) (rest := []) C hl.1 hKC hsC hA ⟨Nat.le_refl _, Nat.le_refl _⟩ (ctX10_put l gC _ _ _ _ _ _ hE1) (cw_L_45 C ⟨Nat.le_of_ble_eq_true rfl, Nat.le_of_ble_eq_true rfl⟩) (hsC.recv hKC 0 (by decide) rfl rfl) rfl rfl (Nat.le_of_ble_eq_true rfl) dL_law_491 (fun H1 locs1 hsC hk => ?_)
  have hsM := hsM.other (fun i j hi hj e => hap j i hj hi e.symm) hk hsC
  refine lv_aload_n hx hb dL_law_494 rfl (lv_at hl 2 rfl) ?_
  refine lv_aload_n hx hb dL_law_495 rfl (lv_at hl 0 rfl) ?_
  refine lv_iload_n hx hb dL_law_496 rfl (lv_at hl 3 rfl) ?_
  refine lv_iconst (v := 1) hx hb dL_law_497 (by decide) ?_
  refine lv_iadd hx hb dL_law_498 ?_
  refine va_sld hx hb hX hbl hbA hsC.2.2 (nI_k (k := 1) hi hL (by decide)) dL_law_499 ?_
  refine lv_aload_n hx hb dL_law_500 rfl (lv_at hl 0 rfl) ?_
  refine lv_iload_n hx hb dL_law_501 rfl (lv_at hl 3 rfl) ?_
  refine lv_iconst (v := 2) hx hb dL_law_502 (by decide) ?_
  refine lv_iadd hx hb dL_law_503 ?_
  refine va_sld hx hb hX hbl hbA hsC.2.2 (nI_k (k := 2) hi hL (by decide)) dL_law_504 ?_
  refine lv_aload_n hx hb dL_law_505 rfl (lv_at hl 0 rfl) ?_
  refine lv_iload_n hx hb dL_law_506 rfl (lv_at hl 3 rfl) ?_
  refine lv_iconst (v := 3) hx hb dL_law_507 (by decide) ?_
  refine lv_iadd hx hb dL_law_508 ?_
  refine va_sld hx hb hX hbl hbA hsC.2.2 (nI_k (k := 3) hi hL (by decide)) dL_law_509 ?_
  refine xl_civ (As := [.int (xs (nI i + 1).toNatClampNeg), .int (xs (nI i + 2).toNatClampNeg), .int (xs (nI i + 3).toNatClampNeg)]) (rest := [.int r]) C hl.1 hKM hsM hA ⟨Nat.le_refl _, Nat.le_refl _⟩ (ctX11_put l gM _ _ _ _ _ _ hE2) (cw_L_48 C ⟨Nat.le_of_ble_eq_true rfl, Nat.le_of_ble_eq_true rfl⟩) (hsM.recv hKM 0 (by decide) rfl rfl) rfl rfl (Nat.le_of_ble_eq_true rfl) dL_law_510 (fun H2 locs2 hsM hk => ?_)
  have hsC := hsC.other hap hk hsM
  refine lv_icmp_eq (tgt := 1499) hx hb dL_law_513 (by decide) (fun hc => ?_) (fun hc => ?_)
  · exact kk τ1 σ1 H2 locs2 ls hR1 hsC hsM hl
  · exact absurd rfl hc
set_option maxHeartbeats 4000000 in
set_option maxRecDepth 100000 in
theorem lc_fault {p : Program} {l : Launch} {e : Env} {s : State} {m : MethodId} {below : List Frame} {meth : Method} {c : Code} {b L : Nat} {xs : Nat → Int32} {Q : State → Prop} {gC gM : GG} {Rel : St → St → Prop} (hL : L ≤ 3072) (C0 : lw_At p s m meth c b L xs) (hKC : KS gC s) (hKM : KS gM s) (hap : ∀ i j, i < 52 → j < 25 → gC.2.1 i ≠ gM.2.1 j) (hS : ∀ (τ σ : St), Rel τ σ → ∀ (a1 : Int32) , ∃ (τ' σ' : St) (r : Int32), fX10_fault τ a1 = some (τ', r) ∧ fX11_fault σ a1 = some (σ', r) ∧ Rel τ' σ') {τ σ : St} (hR : Rel τ σ) {H : Heap} {locs : List Loc} (hsC : HW 52 entC gC (fun q : Nat => s.heap.size ≤ q) s.heap H locs τ) (hsM : HW 25 entM gM (fun q : Nat => s.heap.size ≤ q) s.heap H locs σ) {i : Nat} (hi : i + 6 ≤ L) {ls : Array Slot} (hl : lv_has ls 4 [(0, .ref b), (1, .ref (gC.2.1 0)), (2, .ref (gM.2.1 0)), (3, .int (nI i))]) (kk : ∀ (τ σ : St) (H : Heap) (locs : List Loc) (ls : Array Slot), Rel τ σ → HW 52 entC gC (fun q : Nat => s.heap.size ≤ q) s.heap H locs τ → HW 25 entM gM (fun q : Nat => s.heap.size ≤ q) s.heap H locs σ → lv_has ls 4 [(0, .ref b), (1, .ref (gC.2.1 0)), (2, .ref (gM.2.1 0)), (3, .int (nI i))] → W p l e room_1 s m #[Value.ref b] below meth c H locs 600000 7302250 Q (F0 m 1499 ls [])) : W p l e room_1 s m #[Value.ref b] below meth c H locs 600000 7302250 Q (F0 m 518 ls []) := by
  have C := cf_law C0
  obtain ⟨hx, hb, hr, hml, hown, hts, hX, hbl, hlocks, hgv⟩ := id C0
  have hA : ∀ q : Nat, s.heap.size ≤ q → (fun q : Nat => s.heap.size ≤ q) q := fun _ h => h
  have hbA : ¬ (fun q : Nat => s.heap.size ≤ q) b := Nat.not_le.mpr hbl
  obtain ⟨τ1, σ1, r, hE1, hE2, hR1⟩ := hS τ σ hR (xs (nI i + 1).toNatClampNeg)
  refine lv_aload_n hx hb dL_law_518 rfl (lv_at hl 1 rfl) ?_
  refine lv_aload_n hx hb dL_law_519 rfl (lv_at hl 0 rfl) ?_
  refine lv_iload_n hx hb dL_law_520 rfl (lv_at hl 3 rfl) ?_
  refine lv_iconst (v := 1) hx hb dL_law_521 (by decide) ?_
  refine lv_iadd hx hb dL_law_522 ?_
  refine va_sld hx hb hX hbl hbA hsC.2.2 (nI_k (k := 1) hi hL (by decide)) dL_law_523 ?_
  refine xl_civ (As := [.int (xs (nI i + 1).toNatClampNeg)]) (rest := []) C hl.1 hKC hsC hA ⟨Nat.le_refl _, Nat.le_refl _⟩ (ctX10_fault l gC _ _ _ _ hE1) (cw_L_49 C ⟨Nat.le_of_ble_eq_true rfl, Nat.le_of_ble_eq_true rfl⟩) (hsC.recv hKC 0 (by decide) rfl rfl) rfl rfl (Nat.le_of_ble_eq_true rfl) dL_law_524 (fun H1 locs1 hsC hk => ?_)
  have hsM := hsM.other (fun i j hi hj e => hap j i hj hi e.symm) hk hsC
  refine lv_aload_n hx hb dL_law_527 rfl (lv_at hl 2 rfl) ?_
  refine lv_aload_n hx hb dL_law_528 rfl (lv_at hl 0 rfl) ?_
  refine lv_iload_n hx hb dL_law_529 rfl (lv_at hl 3 rfl) ?_
  refine lv_iconst (v := 1) hx hb dL_law_530 (by decide) ?_
  refine lv_iadd hx hb dL_law_531 ?_
  refine va_sld hx hb hX hbl hbA hsC.2.2 (nI_k (k := 1) hi hL (by decide)) dL_law_532 ?_
  refine xl_civ (As := [.int (xs (nI i + 1).toNatClampNeg)]) (rest := [.int r]) C hl.1 hKM hsM hA ⟨Nat.le_refl _, Nat.le_refl _⟩ (ctX11_fault l gM _ _ _ _ hE2) (cw_L_52 C ⟨Nat.le_of_ble_eq_true rfl, Nat.le_of_ble_eq_true rfl⟩) (hsM.recv hKM 0 (by decide) rfl rfl) rfl rfl (Nat.le_of_ble_eq_true rfl) dL_law_533 (fun H2 locs2 hsM hk => ?_)
  have hsC := hsC.other hap hk hsM
  refine lv_icmp_eq (tgt := 1499) hx hb dL_law_536 (by decide) (fun hc => ?_) (fun hc => ?_)
  · exact kk τ1 σ1 H2 locs2 ls hR1 hsC hsM hl
  · exact absurd rfl hc
set_option maxHeartbeats 4000000 in
set_option maxRecDepth 100000 in
theorem lc_town {p : Program} {l : Launch} {e : Env} {s : State} {m : MethodId} {below : List Frame} {meth : Method} {c : Code} {b L : Nat} {xs : Nat → Int32} {Q : State → Prop} {gC gM : GG} {Rel : St → St → Prop} (hL : L ≤ 3072) (C0 : lw_At p s m meth c b L xs) (hKC : KS gC s) (hKM : KS gM s) (hap : ∀ i j, i < 52 → j < 25 → gC.2.1 i ≠ gM.2.1 j) (hS : ∀ (τ σ : St), Rel τ σ → ∀ (a1 : Int32) , ∃ (τ' σ' : St) (r : Int32), fX10_town τ a1 = some (τ', r) ∧ fX11_town σ a1 = some (σ', r) ∧ Rel τ' σ') {τ σ : St} (hR : Rel τ σ) {H : Heap} {locs : List Loc} (hsC : HW 52 entC gC (fun q : Nat => s.heap.size ≤ q) s.heap H locs τ) (hsM : HW 25 entM gM (fun q : Nat => s.heap.size ≤ q) s.heap H locs σ) {i : Nat} (hi : i + 6 ≤ L) {ls : Array Slot} (hl : lv_has ls 4 [(0, .ref b), (1, .ref (gC.2.1 0)), (2, .ref (gM.2.1 0)), (3, .int (nI i))]) (kk : ∀ (τ σ : St) (H : Heap) (locs : List Loc) (ls : Array Slot), Rel τ σ → HW 52 entC gC (fun q : Nat => s.heap.size ≤ q) s.heap H locs τ → HW 25 entM gM (fun q : Nat => s.heap.size ≤ q) s.heap H locs σ → lv_has ls 4 [(0, .ref b), (1, .ref (gC.2.1 0)), (2, .ref (gM.2.1 0)), (3, .int (nI i))] → W p l e room_1 s m #[Value.ref b] below meth c H locs 600000 7302250 Q (F0 m 1499 ls [])) : W p l e room_1 s m #[Value.ref b] below meth c H locs 600000 7302250 Q (F0 m 541 ls []) := by
  have C := cf_law C0
  obtain ⟨hx, hb, hr, hml, hown, hts, hX, hbl, hlocks, hgv⟩ := id C0
  have hA : ∀ q : Nat, s.heap.size ≤ q → (fun q : Nat => s.heap.size ≤ q) q := fun _ h => h
  have hbA : ¬ (fun q : Nat => s.heap.size ≤ q) b := Nat.not_le.mpr hbl
  obtain ⟨τ1, σ1, r, hE1, hE2, hR1⟩ := hS τ σ hR (xs (nI i + 1).toNatClampNeg)
  refine lv_aload_n hx hb dL_law_541 rfl (lv_at hl 1 rfl) ?_
  refine lv_aload_n hx hb dL_law_542 rfl (lv_at hl 0 rfl) ?_
  refine lv_iload_n hx hb dL_law_543 rfl (lv_at hl 3 rfl) ?_
  refine lv_iconst (v := 1) hx hb dL_law_544 (by decide) ?_
  refine lv_iadd hx hb dL_law_545 ?_
  refine va_sld hx hb hX hbl hbA hsC.2.2 (nI_k (k := 1) hi hL (by decide)) dL_law_546 ?_
  refine xl_civ (As := [.int (xs (nI i + 1).toNatClampNeg)]) (rest := []) C hl.1 hKC hsC hA ⟨Nat.le_refl _, Nat.le_refl _⟩ (ctX10_town l gC _ _ _ _ hE1) (cw_L_53 C ⟨Nat.le_of_ble_eq_true rfl, Nat.le_of_ble_eq_true rfl⟩) (hsC.recv hKC 0 (by decide) rfl rfl) rfl rfl (Nat.le_of_ble_eq_true rfl) dL_law_547 (fun H1 locs1 hsC hk => ?_)
  have hsM := hsM.other (fun i j hi hj e => hap j i hj hi e.symm) hk hsC
  refine lv_aload_n hx hb dL_law_550 rfl (lv_at hl 2 rfl) ?_
  refine lv_aload_n hx hb dL_law_551 rfl (lv_at hl 0 rfl) ?_
  refine lv_iload_n hx hb dL_law_552 rfl (lv_at hl 3 rfl) ?_
  refine lv_iconst (v := 1) hx hb dL_law_553 (by decide) ?_
  refine lv_iadd hx hb dL_law_554 ?_
  refine va_sld hx hb hX hbl hbA hsC.2.2 (nI_k (k := 1) hi hL (by decide)) dL_law_555 ?_
  refine xl_civ (As := [.int (xs (nI i + 1).toNatClampNeg)]) (rest := [.int r]) C hl.1 hKM hsM hA ⟨Nat.le_refl _, Nat.le_refl _⟩ (ctX11_town l gM _ _ _ _ hE2) (cw_L_56 C ⟨Nat.le_of_ble_eq_true rfl, Nat.le_of_ble_eq_true rfl⟩) (hsM.recv hKM 0 (by decide) rfl rfl) rfl rfl (Nat.le_of_ble_eq_true rfl) dL_law_556 (fun H2 locs2 hsM hk => ?_)
  have hsC := hsC.other hap hk hsM
  refine lv_icmp_eq (tgt := 1499) hx hb dL_law_559 (by decide) (fun hc => ?_) (fun hc => ?_)
  · exact kk τ1 σ1 H2 locs2 ls hR1 hsC hsM hl
  · exact absurd rfl hc
set_option maxHeartbeats 4000000 in
set_option maxRecDepth 100000 in
theorem lc_colour {p : Program} {l : Launch} {e : Env} {s : State} {m : MethodId} {below : List Frame} {meth : Method} {c : Code} {b L : Nat} {xs : Nat → Int32} {Q : State → Prop} {gC gM : GG} {Rel : St → St → Prop} (hL : L ≤ 3072) (C0 : lw_At p s m meth c b L xs) (hKC : KS gC s) (hKM : KS gM s) (hap : ∀ i j, i < 52 → j < 25 → gC.2.1 i ≠ gM.2.1 j) (hS : ∀ (τ σ : St), Rel τ σ → ∀ (a1 a2 : Int32) , ∃ (τ' σ' : St) (r : Int32), fX10_colour τ a1 a2 = some (τ', r) ∧ fX11_colour σ a1 a2 = some (σ', r) ∧ Rel τ' σ') {τ σ : St} (hR : Rel τ σ) {H : Heap} {locs : List Loc} (hsC : HW 52 entC gC (fun q : Nat => s.heap.size ≤ q) s.heap H locs τ) (hsM : HW 25 entM gM (fun q : Nat => s.heap.size ≤ q) s.heap H locs σ) {i : Nat} (hi : i + 6 ≤ L) {ls : Array Slot} (hl : lv_has ls 4 [(0, .ref b), (1, .ref (gC.2.1 0)), (2, .ref (gM.2.1 0)), (3, .int (nI i))]) (kk : ∀ (τ σ : St) (H : Heap) (locs : List Loc) (ls : Array Slot), Rel τ σ → HW 52 entC gC (fun q : Nat => s.heap.size ≤ q) s.heap H locs τ → HW 25 entM gM (fun q : Nat => s.heap.size ≤ q) s.heap H locs σ → lv_has ls 4 [(0, .ref b), (1, .ref (gC.2.1 0)), (2, .ref (gM.2.1 0)), (3, .int (nI i))] → W p l e room_1 s m #[Value.ref b] below meth c H locs 600000 7302250 Q (F0 m 1499 ls [])) : W p l e room_1 s m #[Value.ref b] below meth c H locs 600000 7302250 Q (F0 m 564 ls []) := by
  have C := cf_law C0
  obtain ⟨hx, hb, hr, hml, hown, hts, hX, hbl, hlocks, hgv⟩ := id C0
  have hA : ∀ q : Nat, s.heap.size ≤ q → (fun q : Nat => s.heap.size ≤ q) q := fun _ h => h
  have hbA : ¬ (fun q : Nat => s.heap.size ≤ q) b := Nat.not_le.mpr hbl
  obtain ⟨τ1, σ1, r, hE1, hE2, hR1⟩ := hS τ σ hR (xs (nI i + 1).toNatClampNeg) (xs (nI i + 2).toNatClampNeg)
  refine lv_aload_n hx hb dL_law_564 rfl (lv_at hl 1 rfl) ?_
  refine lv_aload_n hx hb dL_law_565 rfl (lv_at hl 0 rfl) ?_
  refine lv_iload_n hx hb dL_law_566 rfl (lv_at hl 3 rfl) ?_
  refine lv_iconst (v := 1) hx hb dL_law_567 (by decide) ?_
  refine lv_iadd hx hb dL_law_568 ?_
  refine va_sld hx hb hX hbl hbA hsC.2.2 (nI_k (k := 1) hi hL (by decide)) dL_law_569 ?_
  refine lv_aload_n hx hb dL_law_570 rfl (lv_at hl 0 rfl) ?_
  refine lv_iload_n hx hb dL_law_571 rfl (lv_at hl 3 rfl) ?_
  refine lv_iconst (v := 2) hx hb dL_law_572 (by decide) ?_
  refine lv_iadd hx hb dL_law_573 ?_
  refine va_sld hx hb hX hbl hbA hsC.2.2 (nI_k (k := 2) hi hL (by decide)) dL_law_574 ?_
  refine xl_civ (As := [.int (xs (nI i + 1).toNatClampNeg), .int (xs (nI i + 2).toNatClampNeg)]) (rest := []) C hl.1 hKC hsC hA ⟨Nat.le_refl _, Nat.le_refl _⟩ (ctX10_colour l gC _ _ _ _ _ hE1) (cw_L_57 C ⟨Nat.le_of_ble_eq_true rfl, Nat.le_of_ble_eq_true rfl⟩) (hsC.recv hKC 0 (by decide) rfl rfl) rfl rfl (Nat.le_of_ble_eq_true rfl) dL_law_575 (fun H1 locs1 hsC hk => ?_)
  have hsM := hsM.other (fun i j hi hj e => hap j i hj hi e.symm) hk hsC
  refine lv_aload_n hx hb dL_law_578 rfl (lv_at hl 2 rfl) ?_
  refine lv_aload_n hx hb dL_law_579 rfl (lv_at hl 0 rfl) ?_
  refine lv_iload_n hx hb dL_law_580 rfl (lv_at hl 3 rfl) ?_
  refine lv_iconst (v := 1) hx hb dL_law_581 (by decide) ?_
  refine lv_iadd hx hb dL_law_582 ?_
  refine va_sld hx hb hX hbl hbA hsC.2.2 (nI_k (k := 1) hi hL (by decide)) dL_law_583 ?_
  refine lv_aload_n hx hb dL_law_584 rfl (lv_at hl 0 rfl) ?_
  refine lv_iload_n hx hb dL_law_585 rfl (lv_at hl 3 rfl) ?_
  refine lv_iconst (v := 2) hx hb dL_law_586 (by decide) ?_
  refine lv_iadd hx hb dL_law_587 ?_
  refine va_sld hx hb hX hbl hbA hsC.2.2 (nI_k (k := 2) hi hL (by decide)) dL_law_588 ?_
  refine xl_civ (As := [.int (xs (nI i + 1).toNatClampNeg), .int (xs (nI i + 2).toNatClampNeg)]) (rest := [.int r]) C hl.1 hKM hsM hA ⟨Nat.le_refl _, Nat.le_refl _⟩ (ctX11_colour l gM _ _ _ _ _ hE2) (cw_L_60 C ⟨Nat.le_of_ble_eq_true rfl, Nat.le_of_ble_eq_true rfl⟩) (hsM.recv hKM 0 (by decide) rfl rfl) rfl rfl (Nat.le_of_ble_eq_true rfl) dL_law_589 (fun H2 locs2 hsM hk => ?_)
  have hsC := hsC.other hap hk hsM
  refine lv_icmp_eq (tgt := 1499) hx hb dL_law_592 (by decide) (fun hc => ?_) (fun hc => ?_)
  · exact kk τ1 σ1 H2 locs2 ls hR1 hsC hsM hl
  · exact absurd rfl hc
set_option maxHeartbeats 4000000 in
set_option maxRecDepth 100000 in
theorem lc_letter {p : Program} {l : Launch} {e : Env} {s : State} {m : MethodId} {below : List Frame} {meth : Method} {c : Code} {b L : Nat} {xs : Nat → Int32} {Q : State → Prop} {gC gM : GG} {Rel : St → St → Prop} (hL : L ≤ 3072) (C0 : lw_At p s m meth c b L xs) (hKC : KS gC s) (hKM : KS gM s) (hap : ∀ i j, i < 52 → j < 25 → gC.2.1 i ≠ gM.2.1 j) (hS : ∀ (τ σ : St), Rel τ σ → ∀ (a1 a2 : Int32) , ∃ (τ' σ' : St) (r : Int32), fX10_letter τ a1 a2 = some (τ', r) ∧ fX11_letter σ a1 a2 = some (σ', r) ∧ Rel τ' σ') {τ σ : St} (hR : Rel τ σ) {H : Heap} {locs : List Loc} (hsC : HW 52 entC gC (fun q : Nat => s.heap.size ≤ q) s.heap H locs τ) (hsM : HW 25 entM gM (fun q : Nat => s.heap.size ≤ q) s.heap H locs σ) {i : Nat} (hi : i + 6 ≤ L) {ls : Array Slot} (hl : lv_has ls 4 [(0, .ref b), (1, .ref (gC.2.1 0)), (2, .ref (gM.2.1 0)), (3, .int (nI i))]) (kk : ∀ (τ σ : St) (H : Heap) (locs : List Loc) (ls : Array Slot), Rel τ σ → HW 52 entC gC (fun q : Nat => s.heap.size ≤ q) s.heap H locs τ → HW 25 entM gM (fun q : Nat => s.heap.size ≤ q) s.heap H locs σ → lv_has ls 4 [(0, .ref b), (1, .ref (gC.2.1 0)), (2, .ref (gM.2.1 0)), (3, .int (nI i))] → W p l e room_1 s m #[Value.ref b] below meth c H locs 600000 7302250 Q (F0 m 1499 ls [])) : W p l e room_1 s m #[Value.ref b] below meth c H locs 600000 7302250 Q (F0 m 597 ls []) := by
  have C := cf_law C0
  obtain ⟨hx, hb, hr, hml, hown, hts, hX, hbl, hlocks, hgv⟩ := id C0
  have hA : ∀ q : Nat, s.heap.size ≤ q → (fun q : Nat => s.heap.size ≤ q) q := fun _ h => h
  have hbA : ¬ (fun q : Nat => s.heap.size ≤ q) b := Nat.not_le.mpr hbl
  obtain ⟨τ1, σ1, r, hE1, hE2, hR1⟩ := hS τ σ hR (xs (nI i + 1).toNatClampNeg) (xs (nI i + 2).toNatClampNeg)
  refine lv_aload_n hx hb dL_law_597 rfl (lv_at hl 1 rfl) ?_
  refine lv_aload_n hx hb dL_law_598 rfl (lv_at hl 0 rfl) ?_
  refine lv_iload_n hx hb dL_law_599 rfl (lv_at hl 3 rfl) ?_
  refine lv_iconst (v := 1) hx hb dL_law_600 (by decide) ?_
  refine lv_iadd hx hb dL_law_601 ?_
  refine va_sld hx hb hX hbl hbA hsC.2.2 (nI_k (k := 1) hi hL (by decide)) dL_law_602 ?_
  refine lv_aload_n hx hb dL_law_603 rfl (lv_at hl 0 rfl) ?_
  refine lv_iload_n hx hb dL_law_604 rfl (lv_at hl 3 rfl) ?_
  refine lv_iconst (v := 2) hx hb dL_law_605 (by decide) ?_
  refine lv_iadd hx hb dL_law_606 ?_
  refine va_sld hx hb hX hbl hbA hsC.2.2 (nI_k (k := 2) hi hL (by decide)) dL_law_607 ?_
  refine xl_civ (As := [.int (xs (nI i + 1).toNatClampNeg), .int (xs (nI i + 2).toNatClampNeg)]) (rest := []) C hl.1 hKC hsC hA ⟨Nat.le_refl _, Nat.le_refl _⟩ (ctX10_letter l gC _ _ _ _ _ hE1) (cw_L_61 C ⟨Nat.le_of_ble_eq_true rfl, Nat.le_of_ble_eq_true rfl⟩) (hsC.recv hKC 0 (by decide) rfl rfl) rfl rfl (Nat.le_of_ble_eq_true rfl) dL_law_608 (fun H1 locs1 hsC hk => ?_)
  have hsM := hsM.other (fun i j hi hj e => hap j i hj hi e.symm) hk hsC
  refine lv_aload_n hx hb dL_law_611 rfl (lv_at hl 2 rfl) ?_
  refine lv_aload_n hx hb dL_law_612 rfl (lv_at hl 0 rfl) ?_
  refine lv_iload_n hx hb dL_law_613 rfl (lv_at hl 3 rfl) ?_
  refine lv_iconst (v := 1) hx hb dL_law_614 (by decide) ?_
  refine lv_iadd hx hb dL_law_615 ?_
  refine va_sld hx hb hX hbl hbA hsC.2.2 (nI_k (k := 1) hi hL (by decide)) dL_law_616 ?_
  refine lv_aload_n hx hb dL_law_617 rfl (lv_at hl 0 rfl) ?_
  refine lv_iload_n hx hb dL_law_618 rfl (lv_at hl 3 rfl) ?_
  refine lv_iconst (v := 2) hx hb dL_law_619 (by decide) ?_
  refine lv_iadd hx hb dL_law_620 ?_
  refine va_sld hx hb hX hbl hbA hsC.2.2 (nI_k (k := 2) hi hL (by decide)) dL_law_621 ?_
  refine xl_civ (As := [.int (xs (nI i + 1).toNatClampNeg), .int (xs (nI i + 2).toNatClampNeg)]) (rest := [.int r]) C hl.1 hKM hsM hA ⟨Nat.le_refl _, Nat.le_refl _⟩ (ctX11_letter l gM _ _ _ _ _ hE2) (cw_L_64 C ⟨Nat.le_of_ble_eq_true rfl, Nat.le_of_ble_eq_true rfl⟩) (hsM.recv hKM 0 (by decide) rfl rfl) rfl rfl (Nat.le_of_ble_eq_true rfl) dL_law_622 (fun H2 locs2 hsM hk => ?_)
  have hsC := hsC.other hap hk hsM
  refine lv_icmp_eq (tgt := 1499) hx hb dL_law_625 (by decide) (fun hc => ?_) (fun hc => ?_)
  · exact kk τ1 σ1 H2 locs2 ls hR1 hsC hsM hl
  · exact absurd rfl hc
set_option maxHeartbeats 4000000 in
set_option maxRecDepth 100000 in
theorem lc_house {p : Program} {l : Launch} {e : Env} {s : State} {m : MethodId} {below : List Frame} {meth : Method} {c : Code} {b L : Nat} {xs : Nat → Int32} {Q : State → Prop} {gC gM : GG} {Rel : St → St → Prop} (hL : L ≤ 3072) (C0 : lw_At p s m meth c b L xs) (hKC : KS gC s) (hKM : KS gM s) (hap : ∀ i j, i < 52 → j < 25 → gC.2.1 i ≠ gM.2.1 j) (hS : ∀ (τ σ : St), Rel τ σ → ∀ (a1 a2 : Int32) , ∃ (τ' σ' : St) (r : Int32), fX10_house τ a1 a2 = some (τ', r) ∧ fX11_house σ a1 a2 = some (σ', r) ∧ Rel τ' σ') {τ σ : St} (hR : Rel τ σ) {H : Heap} {locs : List Loc} (hsC : HW 52 entC gC (fun q : Nat => s.heap.size ≤ q) s.heap H locs τ) (hsM : HW 25 entM gM (fun q : Nat => s.heap.size ≤ q) s.heap H locs σ) {i : Nat} (hi : i + 6 ≤ L) {ls : Array Slot} (hl : lv_has ls 4 [(0, .ref b), (1, .ref (gC.2.1 0)), (2, .ref (gM.2.1 0)), (3, .int (nI i))]) (kk : ∀ (τ σ : St) (H : Heap) (locs : List Loc) (ls : Array Slot), Rel τ σ → HW 52 entC gC (fun q : Nat => s.heap.size ≤ q) s.heap H locs τ → HW 25 entM gM (fun q : Nat => s.heap.size ≤ q) s.heap H locs σ → lv_has ls 4 [(0, .ref b), (1, .ref (gC.2.1 0)), (2, .ref (gM.2.1 0)), (3, .int (nI i))] → W p l e room_1 s m #[Value.ref b] below meth c H locs 600000 7302250 Q (F0 m 1499 ls [])) : W p l e room_1 s m #[Value.ref b] below meth c H locs 600000 7302250 Q (F0 m 630 ls []) := by
  have C := cf_law C0
  obtain ⟨hx, hb, hr, hml, hown, hts, hX, hbl, hlocks, hgv⟩ := id C0
  have hA : ∀ q : Nat, s.heap.size ≤ q → (fun q : Nat => s.heap.size ≤ q) q := fun _ h => h
  have hbA : ¬ (fun q : Nat => s.heap.size ≤ q) b := Nat.not_le.mpr hbl
  obtain ⟨τ1, σ1, r, hE1, hE2, hR1⟩ := hS τ σ hR (xs (nI i + 1).toNatClampNeg) (xs (nI i + 2).toNatClampNeg)
  refine lv_aload_n hx hb dL_law_630 rfl (lv_at hl 1 rfl) ?_
  refine lv_aload_n hx hb dL_law_631 rfl (lv_at hl 0 rfl) ?_
  refine lv_iload_n hx hb dL_law_632 rfl (lv_at hl 3 rfl) ?_
  refine lv_iconst (v := 1) hx hb dL_law_633 (by decide) ?_
  refine lv_iadd hx hb dL_law_634 ?_
  refine va_sld hx hb hX hbl hbA hsC.2.2 (nI_k (k := 1) hi hL (by decide)) dL_law_635 ?_
  refine lv_aload_n hx hb dL_law_636 rfl (lv_at hl 0 rfl) ?_
  refine lv_iload_n hx hb dL_law_637 rfl (lv_at hl 3 rfl) ?_
  refine lv_iconst (v := 2) hx hb dL_law_638 (by decide) ?_
  refine lv_iadd hx hb dL_law_639 ?_
  refine va_sld hx hb hX hbl hbA hsC.2.2 (nI_k (k := 2) hi hL (by decide)) dL_law_640 ?_
  refine xl_civ (As := [.int (xs (nI i + 1).toNatClampNeg), .int (xs (nI i + 2).toNatClampNeg)]) (rest := []) C hl.1 hKC hsC hA ⟨Nat.le_refl _, Nat.le_refl _⟩ (ctX10_house l gC _ _ _ _ _ hE1) (cw_L_65 C ⟨Nat.le_of_ble_eq_true rfl, Nat.le_of_ble_eq_true rfl⟩) (hsC.recv hKC 0 (by decide) rfl rfl) rfl rfl (Nat.le_of_ble_eq_true rfl) dL_law_641 (fun H1 locs1 hsC hk => ?_)
  have hsM := hsM.other (fun i j hi hj e => hap j i hj hi e.symm) hk hsC
  refine lv_aload_n hx hb dL_law_644 rfl (lv_at hl 2 rfl) ?_
  refine lv_aload_n hx hb dL_law_645 rfl (lv_at hl 0 rfl) ?_
  refine lv_iload_n hx hb dL_law_646 rfl (lv_at hl 3 rfl) ?_
  refine lv_iconst (v := 1) hx hb dL_law_647 (by decide) ?_
  refine lv_iadd hx hb dL_law_648 ?_
  refine va_sld hx hb hX hbl hbA hsC.2.2 (nI_k (k := 1) hi hL (by decide)) dL_law_649 ?_
  refine lv_aload_n hx hb dL_law_650 rfl (lv_at hl 0 rfl) ?_
  refine lv_iload_n hx hb dL_law_651 rfl (lv_at hl 3 rfl) ?_
  refine lv_iconst (v := 2) hx hb dL_law_652 (by decide) ?_
  refine lv_iadd hx hb dL_law_653 ?_
  refine va_sld hx hb hX hbl hbA hsC.2.2 (nI_k (k := 2) hi hL (by decide)) dL_law_654 ?_
  refine xl_civ (As := [.int (xs (nI i + 1).toNatClampNeg), .int (xs (nI i + 2).toNatClampNeg)]) (rest := [.int r]) C hl.1 hKM hsM hA ⟨Nat.le_refl _, Nat.le_refl _⟩ (ctX11_house l gM _ _ _ _ _ hE2) (cw_L_68 C ⟨Nat.le_of_ble_eq_true rfl, Nat.le_of_ble_eq_true rfl⟩) (hsM.recv hKM 0 (by decide) rfl rfl) rfl rfl (Nat.le_of_ble_eq_true rfl) dL_law_655 (fun H2 locs2 hsM hk => ?_)
  have hsC := hsC.other hap hk hsM
  refine lv_icmp_eq (tgt := 1499) hx hb dL_law_658 (by decide) (fun hc => ?_) (fun hc => ?_)
  · exact kk τ1 σ1 H2 locs2 ls hR1 hsC hsM hl
  · exact absurd rfl hc
set_option maxHeartbeats 4000000 in
set_option maxRecDepth 100000 in
theorem lc_thing {p : Program} {l : Launch} {e : Env} {s : State} {m : MethodId} {below : List Frame} {meth : Method} {c : Code} {b L : Nat} {xs : Nat → Int32} {Q : State → Prop} {gC gM : GG} {Rel : St → St → Prop} (hL : L ≤ 3072) (C0 : lw_At p s m meth c b L xs) (hKC : KS gC s) (hKM : KS gM s) (hap : ∀ i j, i < 52 → j < 25 → gC.2.1 i ≠ gM.2.1 j) (hS : ∀ (τ σ : St), Rel τ σ → ∀ (a1 a2 : Int32) , ∃ (τ' σ' : St) (r : Int32), fX10_thing τ a1 a2 = some (τ', r) ∧ fX11_thing σ a1 a2 = some (σ', r) ∧ Rel τ' σ') {τ σ : St} (hR : Rel τ σ) {H : Heap} {locs : List Loc} (hsC : HW 52 entC gC (fun q : Nat => s.heap.size ≤ q) s.heap H locs τ) (hsM : HW 25 entM gM (fun q : Nat => s.heap.size ≤ q) s.heap H locs σ) {i : Nat} (hi : i + 6 ≤ L) {ls : Array Slot} (hl : lv_has ls 4 [(0, .ref b), (1, .ref (gC.2.1 0)), (2, .ref (gM.2.1 0)), (3, .int (nI i))]) (kk : ∀ (τ σ : St) (H : Heap) (locs : List Loc) (ls : Array Slot), Rel τ σ → HW 52 entC gC (fun q : Nat => s.heap.size ≤ q) s.heap H locs τ → HW 25 entM gM (fun q : Nat => s.heap.size ≤ q) s.heap H locs σ → lv_has ls 4 [(0, .ref b), (1, .ref (gC.2.1 0)), (2, .ref (gM.2.1 0)), (3, .int (nI i))] → W p l e room_1 s m #[Value.ref b] below meth c H locs 600000 7302250 Q (F0 m 1499 ls [])) : W p l e room_1 s m #[Value.ref b] below meth c H locs 600000 7302250 Q (F0 m 663 ls []) := by
  have C := cf_law C0
  obtain ⟨hx, hb, hr, hml, hown, hts, hX, hbl, hlocks, hgv⟩ := id C0
  have hA : ∀ q : Nat, s.heap.size ≤ q → (fun q : Nat => s.heap.size ≤ q) q := fun _ h => h
  have hbA : ¬ (fun q : Nat => s.heap.size ≤ q) b := Nat.not_le.mpr hbl
  obtain ⟨τ1, σ1, r, hE1, hE2, hR1⟩ := hS τ σ hR (xs (nI i + 1).toNatClampNeg) (xs (nI i + 2).toNatClampNeg)
  refine lv_aload_n hx hb dL_law_663 rfl (lv_at hl 1 rfl) ?_
  refine lv_aload_n hx hb dL_law_664 rfl (lv_at hl 0 rfl) ?_
  refine lv_iload_n hx hb dL_law_665 rfl (lv_at hl 3 rfl) ?_
  refine lv_iconst (v := 1) hx hb dL_law_666 (by decide) ?_
  refine lv_iadd hx hb dL_law_667 ?_
  refine va_sld hx hb hX hbl hbA hsC.2.2 (nI_k (k := 1) hi hL (by decide)) dL_law_668 ?_
  refine lv_aload_n hx hb dL_law_669 rfl (lv_at hl 0 rfl) ?_
  refine lv_iload_n hx hb dL_law_670 rfl (lv_at hl 3 rfl) ?_
  refine lv_iconst (v := 2) hx hb dL_law_671 (by decide) ?_
  refine lv_iadd hx hb dL_law_672 ?_
  refine va_sld hx hb hX hbl hbA hsC.2.2 (nI_k (k := 2) hi hL (by decide)) dL_law_673 ?_
  refine xl_civ (As := [.int (xs (nI i + 1).toNatClampNeg), .int (xs (nI i + 2).toNatClampNeg)]) (rest := []) C hl.1 hKC hsC hA ⟨Nat.le_refl _, Nat.le_refl _⟩ (ctX10_thing l gC _ _ _ _ _ hE1) (cw_L_69 C ⟨Nat.le_of_ble_eq_true rfl, Nat.le_of_ble_eq_true rfl⟩) (hsC.recv hKC 0 (by decide) rfl rfl) rfl rfl (Nat.le_of_ble_eq_true rfl) dL_law_674 (fun H1 locs1 hsC hk => ?_)
  have hsM := hsM.other (fun i j hi hj e => hap j i hj hi e.symm) hk hsC
  refine lv_aload_n hx hb dL_law_677 rfl (lv_at hl 2 rfl) ?_
  refine lv_aload_n hx hb dL_law_678 rfl (lv_at hl 0 rfl) ?_
  refine lv_iload_n hx hb dL_law_679 rfl (lv_at hl 3 rfl) ?_
  refine lv_iconst (v := 1) hx hb dL_law_680 (by decide) ?_
  refine lv_iadd hx hb dL_law_681 ?_
  refine va_sld hx hb hX hbl hbA hsC.2.2 (nI_k (k := 1) hi hL (by decide)) dL_law_682 ?_
  refine lv_aload_n hx hb dL_law_683 rfl (lv_at hl 0 rfl) ?_
  refine lv_iload_n hx hb dL_law_684 rfl (lv_at hl 3 rfl) ?_
  refine lv_iconst (v := 2) hx hb dL_law_685 (by decide) ?_
  refine lv_iadd hx hb dL_law_686 ?_
  refine va_sld hx hb hX hbl hbA hsC.2.2 (nI_k (k := 2) hi hL (by decide)) dL_law_687 ?_
  refine xl_civ (As := [.int (xs (nI i + 1).toNatClampNeg), .int (xs (nI i + 2).toNatClampNeg)]) (rest := [.int r]) C hl.1 hKM hsM hA ⟨Nat.le_refl _, Nat.le_refl _⟩ (ctX11_thing l gM _ _ _ _ _ hE2) (cw_L_72 C ⟨Nat.le_of_ble_eq_true rfl, Nat.le_of_ble_eq_true rfl⟩) (hsM.recv hKM 0 (by decide) rfl rfl) rfl rfl (Nat.le_of_ble_eq_true rfl) dL_law_688 (fun H2 locs2 hsM hk => ?_)
  have hsC := hsC.other hap hk hsM
  refine lv_icmp_eq (tgt := 1499) hx hb dL_law_691 (by decide) (fun hc => ?_) (fun hc => ?_)
  · exact kk τ1 σ1 H2 locs2 ls hR1 hsC hsM hl
  · exact absurd rfl hc
set_option maxHeartbeats 4000000 in
set_option maxRecDepth 100000 in
theorem lc_mark {p : Program} {l : Launch} {e : Env} {s : State} {m : MethodId} {below : List Frame} {meth : Method} {c : Code} {b L : Nat} {xs : Nat → Int32} {Q : State → Prop} {gC gM : GG} {Rel : St → St → Prop} (hL : L ≤ 3072) (C0 : lw_At p s m meth c b L xs) (hKC : KS gC s) (hKM : KS gM s) (hap : ∀ i j, i < 52 → j < 25 → gC.2.1 i ≠ gM.2.1 j) (hS : ∀ (τ σ : St), Rel τ σ → ∀ (a1 a2 : Int32) , ∃ (τ' σ' : St) (r : Int32), fX10_mark τ a1 a2 = some (τ', r) ∧ fX11_mark σ a1 a2 = some (σ', r) ∧ Rel τ' σ') {τ σ : St} (hR : Rel τ σ) {H : Heap} {locs : List Loc} (hsC : HW 52 entC gC (fun q : Nat => s.heap.size ≤ q) s.heap H locs τ) (hsM : HW 25 entM gM (fun q : Nat => s.heap.size ≤ q) s.heap H locs σ) {i : Nat} (hi : i + 6 ≤ L) {ls : Array Slot} (hl : lv_has ls 4 [(0, .ref b), (1, .ref (gC.2.1 0)), (2, .ref (gM.2.1 0)), (3, .int (nI i))]) (kk : ∀ (τ σ : St) (H : Heap) (locs : List Loc) (ls : Array Slot), Rel τ σ → HW 52 entC gC (fun q : Nat => s.heap.size ≤ q) s.heap H locs τ → HW 25 entM gM (fun q : Nat => s.heap.size ≤ q) s.heap H locs σ → lv_has ls 4 [(0, .ref b), (1, .ref (gC.2.1 0)), (2, .ref (gM.2.1 0)), (3, .int (nI i))] → W p l e room_1 s m #[Value.ref b] below meth c H locs 600000 7302250 Q (F0 m 1499 ls [])) : W p l e room_1 s m #[Value.ref b] below meth c H locs 600000 7302250 Q (F0 m 696 ls []) := by
  have C := cf_law C0
  obtain ⟨hx, hb, hr, hml, hown, hts, hX, hbl, hlocks, hgv⟩ := id C0
  have hA : ∀ q : Nat, s.heap.size ≤ q → (fun q : Nat => s.heap.size ≤ q) q := fun _ h => h
  have hbA : ¬ (fun q : Nat => s.heap.size ≤ q) b := Nat.not_le.mpr hbl
  obtain ⟨τ1, σ1, r, hE1, hE2, hR1⟩ := hS τ σ hR (xs (nI i + 1).toNatClampNeg) (xs (nI i + 2).toNatClampNeg)
  refine lv_aload_n hx hb dL_law_696 rfl (lv_at hl 1 rfl) ?_
  refine lv_aload_n hx hb dL_law_697 rfl (lv_at hl 0 rfl) ?_
  refine lv_iload_n hx hb dL_law_698 rfl (lv_at hl 3 rfl) ?_
  refine lv_iconst (v := 1) hx hb dL_law_699 (by decide) ?_
  refine lv_iadd hx hb dL_law_700 ?_
  refine va_sld hx hb hX hbl hbA hsC.2.2 (nI_k (k := 1) hi hL (by decide)) dL_law_701 ?_
  refine lv_aload_n hx hb dL_law_702 rfl (lv_at hl 0 rfl) ?_
  refine lv_iload_n hx hb dL_law_703 rfl (lv_at hl 3 rfl) ?_
  refine lv_iconst (v := 2) hx hb dL_law_704 (by decide) ?_
  refine lv_iadd hx hb dL_law_705 ?_
  refine va_sld hx hb hX hbl hbA hsC.2.2 (nI_k (k := 2) hi hL (by decide)) dL_law_706 ?_
  refine xl_civ (As := [.int (xs (nI i + 1).toNatClampNeg), .int (xs (nI i + 2).toNatClampNeg)]) (rest := []) C hl.1 hKC hsC hA ⟨Nat.le_refl _, Nat.le_refl _⟩ (ctX10_mark l gC _ _ _ _ _ hE1) (cw_L_73 C ⟨Nat.le_of_ble_eq_true rfl, Nat.le_of_ble_eq_true rfl⟩) (hsC.recv hKC 0 (by decide) rfl rfl) rfl rfl (Nat.le_of_ble_eq_true rfl) dL_law_707 (fun H1 locs1 hsC hk => ?_)
  have hsM := hsM.other (fun i j hi hj e => hap j i hj hi e.symm) hk hsC
  refine lv_aload_n hx hb dL_law_710 rfl (lv_at hl 2 rfl) ?_
  refine lv_aload_n hx hb dL_law_711 rfl (lv_at hl 0 rfl) ?_
  refine lv_iload_n hx hb dL_law_712 rfl (lv_at hl 3 rfl) ?_
  refine lv_iconst (v := 1) hx hb dL_law_713 (by decide) ?_
  refine lv_iadd hx hb dL_law_714 ?_
  refine va_sld hx hb hX hbl hbA hsC.2.2 (nI_k (k := 1) hi hL (by decide)) dL_law_715 ?_
  refine lv_aload_n hx hb dL_law_716 rfl (lv_at hl 0 rfl) ?_
  refine lv_iload_n hx hb dL_law_717 rfl (lv_at hl 3 rfl) ?_
  refine lv_iconst (v := 2) hx hb dL_law_718 (by decide) ?_
  refine lv_iadd hx hb dL_law_719 ?_
  refine va_sld hx hb hX hbl hbA hsC.2.2 (nI_k (k := 2) hi hL (by decide)) dL_law_720 ?_
  refine xl_civ (As := [.int (xs (nI i + 1).toNatClampNeg), .int (xs (nI i + 2).toNatClampNeg)]) (rest := [.int r]) C hl.1 hKM hsM hA ⟨Nat.le_refl _, Nat.le_refl _⟩ (ctX11_mark l gM _ _ _ _ _ hE2) (cw_L_76 C ⟨Nat.le_of_ble_eq_true rfl, Nat.le_of_ble_eq_true rfl⟩) (hsM.recv hKM 0 (by decide) rfl rfl) rfl rfl (Nat.le_of_ble_eq_true rfl) dL_law_721 (fun H2 locs2 hsM hk => ?_)
  have hsC := hsC.other hap hk hsM
  refine lv_icmp_eq (tgt := 1499) hx hb dL_law_724 (by decide) (fun hc => ?_) (fun hc => ?_)
  · exact kk τ1 σ1 H2 locs2 ls hR1 hsC hsM hl
  · exact absurd rfl hc
set_option maxHeartbeats 4000000 in
set_option maxRecDepth 100000 in
theorem lc_buy {p : Program} {l : Launch} {e : Env} {s : State} {m : MethodId} {below : List Frame} {meth : Method} {c : Code} {b L : Nat} {xs : Nat → Int32} {Q : State → Prop} {gC gM : GG} {Rel : St → St → Prop} (hL : L ≤ 3072) (C0 : lw_At p s m meth c b L xs) (hKC : KS gC s) (hKM : KS gM s) (hap : ∀ i j, i < 52 → j < 25 → gC.2.1 i ≠ gM.2.1 j) (hS : ∀ (τ σ : St), Rel τ σ → ∀ (a1 a2 : Int32) , ∃ (τ' σ' : St) (r : Int32), fX10_buy τ a1 a2 = some (τ', r) ∧ fX11_buy σ a1 a2 = some (σ', r) ∧ Rel τ' σ') {τ σ : St} (hR : Rel τ σ) {H : Heap} {locs : List Loc} (hsC : HW 52 entC gC (fun q : Nat => s.heap.size ≤ q) s.heap H locs τ) (hsM : HW 25 entM gM (fun q : Nat => s.heap.size ≤ q) s.heap H locs σ) {i : Nat} (hi : i + 6 ≤ L) {ls : Array Slot} (hl : lv_has ls 4 [(0, .ref b), (1, .ref (gC.2.1 0)), (2, .ref (gM.2.1 0)), (3, .int (nI i))]) (kk : ∀ (τ σ : St) (H : Heap) (locs : List Loc) (ls : Array Slot), Rel τ σ → HW 52 entC gC (fun q : Nat => s.heap.size ≤ q) s.heap H locs τ → HW 25 entM gM (fun q : Nat => s.heap.size ≤ q) s.heap H locs σ → lv_has ls 4 [(0, .ref b), (1, .ref (gC.2.1 0)), (2, .ref (gM.2.1 0)), (3, .int (nI i))] → W p l e room_1 s m #[Value.ref b] below meth c H locs 600000 7302250 Q (F0 m 1499 ls [])) : W p l e room_1 s m #[Value.ref b] below meth c H locs 600000 7302250 Q (F0 m 729 ls []) := by
  have C := cf_law C0
  obtain ⟨hx, hb, hr, hml, hown, hts, hX, hbl, hlocks, hgv⟩ := id C0
  have hA : ∀ q : Nat, s.heap.size ≤ q → (fun q : Nat => s.heap.size ≤ q) q := fun _ h => h
  have hbA : ¬ (fun q : Nat => s.heap.size ≤ q) b := Nat.not_le.mpr hbl
  obtain ⟨τ1, σ1, r, hE1, hE2, hR1⟩ := hS τ σ hR (xs (nI i + 1).toNatClampNeg) (xs (nI i + 2).toNatClampNeg)
  refine lv_aload_n hx hb dL_law_729 rfl (lv_at hl 1 rfl) ?_
  refine lv_aload_n hx hb dL_law_730 rfl (lv_at hl 0 rfl) ?_
  refine lv_iload_n hx hb dL_law_731 rfl (lv_at hl 3 rfl) ?_
  refine lv_iconst (v := 1) hx hb dL_law_732 (by decide) ?_
  refine lv_iadd hx hb dL_law_733 ?_
  refine va_sld hx hb hX hbl hbA hsC.2.2 (nI_k (k := 1) hi hL (by decide)) dL_law_734 ?_
  refine lv_aload_n hx hb dL_law_735 rfl (lv_at hl 0 rfl) ?_
  refine lv_iload_n hx hb dL_law_736 rfl (lv_at hl 3 rfl) ?_
  refine lv_iconst (v := 2) hx hb dL_law_737 (by decide) ?_
  refine lv_iadd hx hb dL_law_738 ?_
  refine va_sld hx hb hX hbl hbA hsC.2.2 (nI_k (k := 2) hi hL (by decide)) dL_law_739 ?_
  refine xl_civ (As := [.int (xs (nI i + 1).toNatClampNeg), .int (xs (nI i + 2).toNatClampNeg)]) (rest := []) C hl.1 hKC hsC hA ⟨Nat.le_refl _, Nat.le_refl _⟩ (ctX10_buy l gC _ _ _ _ _ hE1) (cw_L_77 C ⟨Nat.le_of_ble_eq_true rfl, Nat.le_of_ble_eq_true rfl⟩) (hsC.recv hKC 0 (by decide) rfl rfl) rfl rfl (Nat.le_of_ble_eq_true rfl) dL_law_740 (fun H1 locs1 hsC hk => ?_)
  have hsM := hsM.other (fun i j hi hj e => hap j i hj hi e.symm) hk hsC
  refine lv_aload_n hx hb dL_law_743 rfl (lv_at hl 2 rfl) ?_
  refine lv_aload_n hx hb dL_law_744 rfl (lv_at hl 0 rfl) ?_
  refine lv_iload_n hx hb dL_law_745 rfl (lv_at hl 3 rfl) ?_
  refine lv_iconst (v := 1) hx hb dL_law_746 (by decide) ?_
  refine lv_iadd hx hb dL_law_747 ?_
  refine va_sld hx hb hX hbl hbA hsC.2.2 (nI_k (k := 1) hi hL (by decide)) dL_law_748 ?_
  refine lv_aload_n hx hb dL_law_749 rfl (lv_at hl 0 rfl) ?_
  refine lv_iload_n hx hb dL_law_750 rfl (lv_at hl 3 rfl) ?_
  refine lv_iconst (v := 2) hx hb dL_law_751 (by decide) ?_
  refine lv_iadd hx hb dL_law_752 ?_
  refine va_sld hx hb hX hbl hbA hsC.2.2 (nI_k (k := 2) hi hL (by decide)) dL_law_753 ?_
  refine xl_civ (As := [.int (xs (nI i + 1).toNatClampNeg), .int (xs (nI i + 2).toNatClampNeg)]) (rest := [.int r]) C hl.1 hKM hsM hA ⟨Nat.le_refl _, Nat.le_refl _⟩ (ctX11_buy l gM _ _ _ _ _ hE2) (cw_L_80 C ⟨Nat.le_of_ble_eq_true rfl, Nat.le_of_ble_eq_true rfl⟩) (hsM.recv hKM 0 (by decide) rfl rfl) rfl rfl (Nat.le_of_ble_eq_true rfl) dL_law_754 (fun H2 locs2 hsM hk => ?_)
  have hsC := hsC.other hap hk hsM
  refine lv_icmp_eq (tgt := 1499) hx hb dL_law_757 (by decide) (fun hc => ?_) (fun hc => ?_)
  · exact kk τ1 σ1 H2 locs2 ls hR1 hsC hsM hl
  · exact absurd rfl hc
set_option maxHeartbeats 4000000 in
set_option maxRecDepth 100000 in
theorem lc_month {p : Program} {l : Launch} {e : Env} {s : State} {m : MethodId} {below : List Frame} {meth : Method} {c : Code} {b L : Nat} {xs : Nat → Int32} {Q : State → Prop} {gC gM : GG} {Rel : St → St → Prop} (hL : L ≤ 3072) (C0 : lw_At p s m meth c b L xs) (hKC : KS gC s) (hKM : KS gM s) (hap : ∀ i j, i < 52 → j < 25 → gC.2.1 i ≠ gM.2.1 j) (hS : ∀ (τ σ : St), Rel τ σ → ∃ (τ' σ' : St) (r : Int32), fX10_month τ = some (τ', r) ∧ fX11_month σ = some (σ', r) ∧ Rel τ' σ') {τ σ : St} (hR : Rel τ σ) {H : Heap} {locs : List Loc} (hsC : HW 52 entC gC (fun q : Nat => s.heap.size ≤ q) s.heap H locs τ) (hsM : HW 25 entM gM (fun q : Nat => s.heap.size ≤ q) s.heap H locs σ) {i : Nat} (hi : i + 6 ≤ L) {ls : Array Slot} (hl : lv_has ls 4 [(0, .ref b), (1, .ref (gC.2.1 0)), (2, .ref (gM.2.1 0)), (3, .int (nI i))]) (kk : ∀ (τ σ : St) (H : Heap) (locs : List Loc) (ls : Array Slot), Rel τ σ → HW 52 entC gC (fun q : Nat => s.heap.size ≤ q) s.heap H locs τ → HW 25 entM gM (fun q : Nat => s.heap.size ≤ q) s.heap H locs σ → lv_has ls 4 [(0, .ref b), (1, .ref (gC.2.1 0)), (2, .ref (gM.2.1 0)), (3, .int (nI i))] → W p l e room_1 s m #[Value.ref b] below meth c H locs 600000 7302250 Q (F0 m 1499 ls [])) : W p l e room_1 s m #[Value.ref b] below meth c H locs 600000 7302250 Q (F0 m 762 ls []) := by
  have C := cf_law C0
  obtain ⟨hx, hb, hr, hml, hown, hts, hX, hbl, hlocks, hgv⟩ := id C0
  have hA : ∀ q : Nat, s.heap.size ≤ q → (fun q : Nat => s.heap.size ≤ q) q := fun _ h => h
  have hbA : ¬ (fun q : Nat => s.heap.size ≤ q) b := Nat.not_le.mpr hbl
  obtain ⟨τ1, σ1, r, hE1, hE2, hR1⟩ := hS τ σ hR 
  refine lv_aload_n hx hb dL_law_762 rfl (lv_at hl 1 rfl) ?_
  refine xl_civ (As := []) (rest := []) C hl.1 hKC hsC hA ⟨Nat.le_refl _, Nat.le_refl _⟩ (ctX10_month l gC _  _ _ hE1) (cw_L_81 C ⟨Nat.le_of_ble_eq_true rfl, Nat.le_of_ble_eq_true rfl⟩) (hsC.recv hKC 0 (by decide) rfl rfl) rfl rfl (Nat.le_of_ble_eq_true rfl) dL_law_763 (fun H1 locs1 hsC hk => ?_)
  have hsM := hsM.other (fun i j hi hj e => hap j i hj hi e.symm) hk hsC
  refine lv_aload_n hx hb dL_law_766 rfl (lv_at hl 2 rfl) ?_
  refine xl_civ (As := []) (rest := [.int r]) C hl.1 hKM hsM hA ⟨Nat.le_refl _, Nat.le_refl _⟩ (ctX11_month l gM _  _ _ hE2) (cw_L_85 C ⟨Nat.le_of_ble_eq_true rfl, Nat.le_of_ble_eq_true rfl⟩) (hsM.recv hKM 0 (by decide) rfl rfl) rfl rfl (Nat.le_of_ble_eq_true rfl) dL_law_767 (fun H2 locs2 hsM hk => ?_)
  have hsC := hsC.other hap hk hsM
  refine lv_icmp_eq (tgt := 1499) hx hb dL_law_770 (by decide) (fun hc => ?_) (fun hc => ?_)
  · exact kk τ1 σ1 H2 locs2 ls hR1 hsC hsM hl
  · exact absurd rfl hc
set_option maxHeartbeats 4000000 in
set_option maxRecDepth 100000 in
theorem lc_trade {p : Program} {l : Launch} {e : Env} {s : State} {m : MethodId} {below : List Frame} {meth : Method} {c : Code} {b L : Nat} {xs : Nat → Int32} {Q : State → Prop} {gC gM : GG} {Rel : St → St → Prop} (hL : L ≤ 3072) (C0 : lw_At p s m meth c b L xs) (hKC : KS gC s) (hKM : KS gM s) (hap : ∀ i j, i < 52 → j < 25 → gC.2.1 i ≠ gM.2.1 j) (hS : ∀ (τ σ : St), Rel τ σ → ∀ (a1 a2 a3 a4 : Int32) , ∃ (τ' σ' : St) (r : Int32), fX10_trade τ a1 a2 a3 a4 = some (τ', r) ∧ fX11_trade σ a1 a2 a3 a4 = some (σ', r) ∧ Rel τ' σ') {τ σ : St} (hR : Rel τ σ) {H : Heap} {locs : List Loc} (hsC : HW 52 entC gC (fun q : Nat => s.heap.size ≤ q) s.heap H locs τ) (hsM : HW 25 entM gM (fun q : Nat => s.heap.size ≤ q) s.heap H locs σ) {i : Nat} (hi : i + 6 ≤ L) {ls : Array Slot} (hl : lv_has ls 4 [(0, .ref b), (1, .ref (gC.2.1 0)), (2, .ref (gM.2.1 0)), (3, .int (nI i))]) (kk : ∀ (τ σ : St) (H : Heap) (locs : List Loc) (ls : Array Slot), Rel τ σ → HW 52 entC gC (fun q : Nat => s.heap.size ≤ q) s.heap H locs τ → HW 25 entM gM (fun q : Nat => s.heap.size ≤ q) s.heap H locs σ → lv_has ls 4 [(0, .ref b), (1, .ref (gC.2.1 0)), (2, .ref (gM.2.1 0)), (3, .int (nI i))] → W p l e room_1 s m #[Value.ref b] below meth c H locs 600000 7302250 Q (F0 m 1499 ls [])) : W p l e room_1 s m #[Value.ref b] below meth c H locs 600000 7302250 Q (F0 m 775 ls []) := by
  have C := cf_law C0
  obtain ⟨hx, hb, hr, hml, hown, hts, hX, hbl, hlocks, hgv⟩ := id C0
  have hA : ∀ q : Nat, s.heap.size ≤ q → (fun q : Nat => s.heap.size ≤ q) q := fun _ h => h
  have hbA : ¬ (fun q : Nat => s.heap.size ≤ q) b := Nat.not_le.mpr hbl
  obtain ⟨τ1, σ1, r, hE1, hE2, hR1⟩ := hS τ σ hR (xs (nI i + 1).toNatClampNeg) (xs (nI i + 2).toNatClampNeg) (xs (nI i + 3).toNatClampNeg) (xs (nI i + 4).toNatClampNeg)
  refine lv_aload_n hx hb dL_law_775 rfl (lv_at hl 1 rfl) ?_
  refine lv_aload_n hx hb dL_law_776 rfl (lv_at hl 0 rfl) ?_
  refine lv_iload_n hx hb dL_law_777 rfl (lv_at hl 3 rfl) ?_
  refine lv_iconst (v := 1) hx hb dL_law_778 (by decide) ?_
  refine lv_iadd hx hb dL_law_779 ?_
  refine va_sld hx hb hX hbl hbA hsC.2.2 (nI_k (k := 1) hi hL (by decide)) dL_law_780 ?_
  refine lv_aload_n hx hb dL_law_781 rfl (lv_at hl 0 rfl) ?_
  refine lv_iload_n hx hb dL_law_782 rfl (lv_at hl 3 rfl) ?_
  refine lv_iconst (v := 2) hx hb dL_law_783 (by decide) ?_
  refine lv_iadd hx hb dL_law_784 ?_
  refine va_sld hx hb hX hbl hbA hsC.2.2 (nI_k (k := 2) hi hL (by decide)) dL_law_785 ?_
  refine lv_aload_n hx hb dL_law_786 rfl (lv_at hl 0 rfl) ?_
  refine lv_iload_n hx hb dL_law_787 rfl (lv_at hl 3 rfl) ?_
  refine lv_iconst (v := 3) hx hb dL_law_788 (by decide) ?_
  refine lv_iadd hx hb dL_law_789 ?_
  refine va_sld hx hb hX hbl hbA hsC.2.2 (nI_k (k := 3) hi hL (by decide)) dL_law_790 ?_
  refine lv_aload_n hx hb dL_law_791 rfl (lv_at hl 0 rfl) ?_
  refine lv_iload_n hx hb dL_law_792 rfl (lv_at hl 3 rfl) ?_
  refine lv_iconst (v := 4) hx hb dL_law_793 (by decide) ?_
  refine lv_iadd hx hb dL_law_794 ?_
  refine va_sld hx hb hX hbl hbA hsC.2.2 (nI_k (k := 4) hi hL (by decide)) dL_law_795 ?_
  refine xl_civ (As := [.int (xs (nI i + 1).toNatClampNeg), .int (xs (nI i + 2).toNatClampNeg), .int (xs (nI i + 3).toNatClampNeg), .int (xs (nI i + 4).toNatClampNeg)]) (rest := []) C hl.1 hKC hsC hA ⟨Nat.le_refl _, Nat.le_refl _⟩ (ctX10_trade l gC _ _ _ _ _ _ _ hE1) (cw_L_86 C ⟨Nat.le_of_ble_eq_true rfl, Nat.le_of_ble_eq_true rfl⟩) (hsC.recv hKC 0 (by decide) rfl rfl) rfl rfl (Nat.le_of_ble_eq_true rfl) dL_law_796 (fun H1 locs1 hsC hk => ?_)
  have hsM := hsM.other (fun i j hi hj e => hap j i hj hi e.symm) hk hsC
  refine lv_aload_n hx hb dL_law_799 rfl (lv_at hl 2 rfl) ?_
  refine lv_aload_n hx hb dL_law_800 rfl (lv_at hl 0 rfl) ?_
  refine lv_iload_n hx hb dL_law_801 rfl (lv_at hl 3 rfl) ?_
  refine lv_iconst (v := 1) hx hb dL_law_802 (by decide) ?_
  refine lv_iadd hx hb dL_law_803 ?_
  refine va_sld hx hb hX hbl hbA hsC.2.2 (nI_k (k := 1) hi hL (by decide)) dL_law_804 ?_
  refine lv_aload_n hx hb dL_law_805 rfl (lv_at hl 0 rfl) ?_
  refine lv_iload_n hx hb dL_law_806 rfl (lv_at hl 3 rfl) ?_
  refine lv_iconst (v := 2) hx hb dL_law_807 (by decide) ?_
  refine lv_iadd hx hb dL_law_808 ?_
  refine va_sld hx hb hX hbl hbA hsC.2.2 (nI_k (k := 2) hi hL (by decide)) dL_law_809 ?_
  refine lv_aload_n hx hb dL_law_810 rfl (lv_at hl 0 rfl) ?_
  refine lv_iload_n hx hb dL_law_811 rfl (lv_at hl 3 rfl) ?_
  refine lv_iconst (v := 3) hx hb dL_law_812 (by decide) ?_
  refine lv_iadd hx hb dL_law_813 ?_
  refine va_sld hx hb hX hbl hbA hsC.2.2 (nI_k (k := 3) hi hL (by decide)) dL_law_814 ?_
  refine lv_aload_n hx hb dL_law_815 rfl (lv_at hl 0 rfl) ?_
  refine lv_iload_n hx hb dL_law_816 rfl (lv_at hl 3 rfl) ?_
  refine lv_iconst (v := 4) hx hb dL_law_817 (by decide) ?_
  refine lv_iadd hx hb dL_law_818 ?_
  refine va_sld hx hb hX hbl hbA hsC.2.2 (nI_k (k := 4) hi hL (by decide)) dL_law_819 ?_
  refine xl_civ (As := [.int (xs (nI i + 1).toNatClampNeg), .int (xs (nI i + 2).toNatClampNeg), .int (xs (nI i + 3).toNatClampNeg), .int (xs (nI i + 4).toNatClampNeg)]) (rest := [.int r]) C hl.1 hKM hsM hA ⟨Nat.le_refl _, Nat.le_refl _⟩ (ctX11_trade l gM _ _ _ _ _ _ _ hE2) (cw_L_90 C ⟨Nat.le_of_ble_eq_true rfl, Nat.le_of_ble_eq_true rfl⟩) (hsM.recv hKM 0 (by decide) rfl rfl) rfl rfl (Nat.le_of_ble_eq_true rfl) dL_law_820 (fun H2 locs2 hsM hk => ?_)
  have hsC := hsC.other hap hk hsM
  refine lv_icmp_eq (tgt := 1499) hx hb dL_law_823 (by decide) (fun hc => ?_) (fun hc => ?_)
  · exact kk τ1 σ1 H2 locs2 ls hR1 hsC hsM hl
  · exact absurd rfl hc
set_option maxHeartbeats 4000000 in
set_option maxRecDepth 100000 in
theorem lc_lend {p : Program} {l : Launch} {e : Env} {s : State} {m : MethodId} {below : List Frame} {meth : Method} {c : Code} {b L : Nat} {xs : Nat → Int32} {Q : State → Prop} {gC gM : GG} {Rel : St → St → Prop} (hL : L ≤ 3072) (C0 : lw_At p s m meth c b L xs) (hKC : KS gC s) (hKM : KS gM s) (hap : ∀ i j, i < 52 → j < 25 → gC.2.1 i ≠ gM.2.1 j) (hS : ∀ (τ σ : St), Rel τ σ → ∀ (a1 a2 a3 : Int32) , ∃ (τ' σ' : St) (r : Int32), fX10_lend τ a1 a2 a3 = some (τ', r) ∧ fX11_lend σ a1 a2 a3 = some (σ', r) ∧ Rel τ' σ') {τ σ : St} (hR : Rel τ σ) {H : Heap} {locs : List Loc} (hsC : HW 52 entC gC (fun q : Nat => s.heap.size ≤ q) s.heap H locs τ) (hsM : HW 25 entM gM (fun q : Nat => s.heap.size ≤ q) s.heap H locs σ) {i : Nat} (hi : i + 6 ≤ L) {ls : Array Slot} (hl : lv_has ls 4 [(0, .ref b), (1, .ref (gC.2.1 0)), (2, .ref (gM.2.1 0)), (3, .int (nI i))]) (kk : ∀ (τ σ : St) (H : Heap) (locs : List Loc) (ls : Array Slot), Rel τ σ → HW 52 entC gC (fun q : Nat => s.heap.size ≤ q) s.heap H locs τ → HW 25 entM gM (fun q : Nat => s.heap.size ≤ q) s.heap H locs σ → lv_has ls 4 [(0, .ref b), (1, .ref (gC.2.1 0)), (2, .ref (gM.2.1 0)), (3, .int (nI i))] → W p l e room_1 s m #[Value.ref b] below meth c H locs 600000 7302250 Q (F0 m 1499 ls [])) : W p l e room_1 s m #[Value.ref b] below meth c H locs 600000 7302250 Q (F0 m 828 ls []) := by
  have C := cf_law C0
  obtain ⟨hx, hb, hr, hml, hown, hts, hX, hbl, hlocks, hgv⟩ := id C0
  have hA : ∀ q : Nat, s.heap.size ≤ q → (fun q : Nat => s.heap.size ≤ q) q := fun _ h => h
  have hbA : ¬ (fun q : Nat => s.heap.size ≤ q) b := Nat.not_le.mpr hbl
  obtain ⟨τ1, σ1, r, hE1, hE2, hR1⟩ := hS τ σ hR (xs (nI i + 1).toNatClampNeg) (xs (nI i + 2).toNatClampNeg) (xs (nI i + 3).toNatClampNeg)
  refine lv_aload_n hx hb dL_law_828 rfl (lv_at hl 1 rfl) ?_
  refine lv_aload_n hx hb dL_law_829 rfl (lv_at hl 0 rfl) ?_
  refine lv_iload_n hx hb dL_law_830 rfl (lv_at hl 3 rfl) ?_
  refine lv_iconst (v := 1) hx hb dL_law_831 (by decide) ?_
  refine lv_iadd hx hb dL_law_832 ?_
  refine va_sld hx hb hX hbl hbA hsC.2.2 (nI_k (k := 1) hi hL (by decide)) dL_law_833 ?_
  refine lv_aload_n hx hb dL_law_834 rfl (lv_at hl 0 rfl) ?_
  refine lv_iload_n hx hb dL_law_835 rfl (lv_at hl 3 rfl) ?_
  refine lv_iconst (v := 2) hx hb dL_law_836 (by decide) ?_
  refine lv_iadd hx hb dL_law_837 ?_
  refine va_sld hx hb hX hbl hbA hsC.2.2 (nI_k (k := 2) hi hL (by decide)) dL_law_838 ?_
  refine lv_aload_n hx hb dL_law_839 rfl (lv_at hl 0 rfl) ?_
  refine lv_iload_n hx hb dL_law_840 rfl (lv_at hl 3 rfl) ?_
  refine lv_iconst (v := 3) hx hb dL_law_841 (by decide) ?_
  refine lv_iadd hx hb dL_law_842 ?_
  refine va_sld hx hb hX hbl hbA hsC.2.2 (nI_k (k := 3) hi hL (by decide)) dL_law_843 ?_
  refine xl_civ (As := [.int (xs (nI i + 1).toNatClampNeg), .int (xs (nI i + 2).toNatClampNeg), .int (xs (nI i + 3).toNatClampNeg)]) (rest := []) C hl.1 hKC hsC hA ⟨Nat.le_refl _, Nat.le_refl _⟩ (ctX10_lend l gC _ _ _ _ _ _ hE1) (cw_L_91 C ⟨Nat.le_of_ble_eq_true rfl, Nat.le_of_ble_eq_true rfl⟩) (hsC.recv hKC 0 (by decide) rfl rfl) rfl rfl (Nat.le_of_ble_eq_true rfl) dL_law_844 (fun H1 locs1 hsC hk => ?_)
  have hsM := hsM.other (fun i j hi hj e => hap j i hj hi e.symm) hk hsC
  refine lv_aload_n hx hb dL_law_847 rfl (lv_at hl 2 rfl) ?_
  refine lv_aload_n hx hb dL_law_848 rfl (lv_at hl 0 rfl) ?_
  refine lv_iload_n hx hb dL_law_849 rfl (lv_at hl 3 rfl) ?_
  refine lv_iconst (v := 1) hx hb dL_law_850 (by decide) ?_
  refine lv_iadd hx hb dL_law_851 ?_
  refine va_sld hx hb hX hbl hbA hsC.2.2 (nI_k (k := 1) hi hL (by decide)) dL_law_852 ?_
  refine lv_aload_n hx hb dL_law_853 rfl (lv_at hl 0 rfl) ?_
  refine lv_iload_n hx hb dL_law_854 rfl (lv_at hl 3 rfl) ?_
  refine lv_iconst (v := 2) hx hb dL_law_855 (by decide) ?_
  refine lv_iadd hx hb dL_law_856 ?_
  refine va_sld hx hb hX hbl hbA hsC.2.2 (nI_k (k := 2) hi hL (by decide)) dL_law_857 ?_
  refine lv_aload_n hx hb dL_law_858 rfl (lv_at hl 0 rfl) ?_
  refine lv_iload_n hx hb dL_law_859 rfl (lv_at hl 3 rfl) ?_
  refine lv_iconst (v := 3) hx hb dL_law_860 (by decide) ?_
  refine lv_iadd hx hb dL_law_861 ?_
  refine va_sld hx hb hX hbl hbA hsC.2.2 (nI_k (k := 3) hi hL (by decide)) dL_law_862 ?_
  refine xl_civ (As := [.int (xs (nI i + 1).toNatClampNeg), .int (xs (nI i + 2).toNatClampNeg), .int (xs (nI i + 3).toNatClampNeg)]) (rest := [.int r]) C hl.1 hKM hsM hA ⟨Nat.le_refl _, Nat.le_refl _⟩ (ctX11_lend l gM _ _ _ _ _ _ hE2) (cw_L_94 C ⟨Nat.le_of_ble_eq_true rfl, Nat.le_of_ble_eq_true rfl⟩) (hsM.recv hKM 0 (by decide) rfl rfl) rfl rfl (Nat.le_of_ble_eq_true rfl) dL_law_863 (fun H2 locs2 hsM hk => ?_)
  have hsC := hsC.other hap hk hsM
  refine lv_icmp_eq (tgt := 1499) hx hb dL_law_866 (by decide) (fun hc => ?_) (fun hc => ?_)
  · exact kk τ1 σ1 H2 locs2 ls hR1 hsC hsM hl
  · exact absurd rfl hc
set_option maxHeartbeats 4000000 in
set_option maxRecDepth 100000 in
theorem lc_undo {p : Program} {l : Launch} {e : Env} {s : State} {m : MethodId} {below : List Frame} {meth : Method} {c : Code} {b L : Nat} {xs : Nat → Int32} {Q : State → Prop} {gC gM : GG} {Rel : St → St → Prop} (hL : L ≤ 3072) (C0 : lw_At p s m meth c b L xs) (hKC : KS gC s) (hKM : KS gM s) (hap : ∀ i j, i < 52 → j < 25 → gC.2.1 i ≠ gM.2.1 j) (hS : ∀ (τ σ : St), Rel τ σ → ∀ (a1 : Int32) , ∃ (τ' σ' : St) (r : Int32), fX10_undo τ a1 = some (τ', r) ∧ fX11_undo σ a1 = some (σ', r) ∧ Rel τ' σ') {τ σ : St} (hR : Rel τ σ) {H : Heap} {locs : List Loc} (hsC : HW 52 entC gC (fun q : Nat => s.heap.size ≤ q) s.heap H locs τ) (hsM : HW 25 entM gM (fun q : Nat => s.heap.size ≤ q) s.heap H locs σ) {i : Nat} (hi : i + 6 ≤ L) {ls : Array Slot} (hl : lv_has ls 4 [(0, .ref b), (1, .ref (gC.2.1 0)), (2, .ref (gM.2.1 0)), (3, .int (nI i))]) (kk : ∀ (τ σ : St) (H : Heap) (locs : List Loc) (ls : Array Slot), Rel τ σ → HW 52 entC gC (fun q : Nat => s.heap.size ≤ q) s.heap H locs τ → HW 25 entM gM (fun q : Nat => s.heap.size ≤ q) s.heap H locs σ → lv_has ls 4 [(0, .ref b), (1, .ref (gC.2.1 0)), (2, .ref (gM.2.1 0)), (3, .int (nI i))] → W p l e room_1 s m #[Value.ref b] below meth c H locs 600000 7302250 Q (F0 m 1499 ls [])) : W p l e room_1 s m #[Value.ref b] below meth c H locs 600000 7302250 Q (F0 m 871 ls []) := by
  have C := cf_law C0
  obtain ⟨hx, hb, hr, hml, hown, hts, hX, hbl, hlocks, hgv⟩ := id C0
  have hA : ∀ q : Nat, s.heap.size ≤ q → (fun q : Nat => s.heap.size ≤ q) q := fun _ h => h
  have hbA : ¬ (fun q : Nat => s.heap.size ≤ q) b := Nat.not_le.mpr hbl
  obtain ⟨τ1, σ1, r, hE1, hE2, hR1⟩ := hS τ σ hR (xs (nI i + 1).toNatClampNeg)
  refine lv_aload_n hx hb dL_law_871 rfl (lv_at hl 1 rfl) ?_
  refine lv_aload_n hx hb dL_law_872 rfl (lv_at hl 0 rfl) ?_
  refine lv_iload_n hx hb dL_law_873 rfl (lv_at hl 3 rfl) ?_
  refine lv_iconst (v := 1) hx hb dL_law_874 (by decide) ?_
  refine lv_iadd hx hb dL_law_875 ?_
  refine va_sld hx hb hX hbl hbA hsC.2.2 (nI_k (k := 1) hi hL (by decide)) dL_law_876 ?_
  refine xl_civ (As := [.int (xs (nI i + 1).toNatClampNeg)]) (rest := []) C hl.1 hKC hsC hA ⟨Nat.le_refl _, Nat.le_refl _⟩ (ctX10_undo l gC _ _ _ _ hE1) (cw_L_95 C ⟨Nat.le_of_ble_eq_true rfl, Nat.le_of_ble_eq_true rfl⟩) (hsC.recv hKC 0 (by decide) rfl rfl) rfl rfl (Nat.le_of_ble_eq_true rfl) dL_law_877 (fun H1 locs1 hsC hk => ?_)
  have hsM := hsM.other (fun i j hi hj e => hap j i hj hi e.symm) hk hsC
  refine lv_aload_n hx hb dL_law_880 rfl (lv_at hl 2 rfl) ?_
  refine lv_aload_n hx hb dL_law_881 rfl (lv_at hl 0 rfl) ?_
  refine lv_iload_n hx hb dL_law_882 rfl (lv_at hl 3 rfl) ?_
  refine lv_iconst (v := 1) hx hb dL_law_883 (by decide) ?_
  refine lv_iadd hx hb dL_law_884 ?_
  refine va_sld hx hb hX hbl hbA hsC.2.2 (nI_k (k := 1) hi hL (by decide)) dL_law_885 ?_
  refine xl_civ (As := [.int (xs (nI i + 1).toNatClampNeg)]) (rest := [.int r]) C hl.1 hKM hsM hA ⟨Nat.le_refl _, Nat.le_refl _⟩ (ctX11_undo l gM _ _ _ _ hE2) (cw_L_98 C ⟨Nat.le_of_ble_eq_true rfl, Nat.le_of_ble_eq_true rfl⟩) (hsM.recv hKM 0 (by decide) rfl rfl) rfl rfl (Nat.le_of_ble_eq_true rfl) dL_law_886 (fun H2 locs2 hsM hk => ?_)
  have hsC := hsC.other hap hk hsM
  refine lv_icmp_eq (tgt := 1499) hx hb dL_law_889 (by decide) (fun hc => ?_) (fun hc => ?_)
  · exact kk τ1 σ1 H2 locs2 ls hR1 hsC hsM hl
  · exact absurd rfl hc
set_option maxHeartbeats 4000000 in
set_option maxRecDepth 100000 in
theorem lc_keep {p : Program} {l : Launch} {e : Env} {s : State} {m : MethodId} {below : List Frame} {meth : Method} {c : Code} {b L : Nat} {xs : Nat → Int32} {Q : State → Prop} {gC gM : GG} {Rel : St → St → Prop} (hL : L ≤ 3072) (C0 : lw_At p s m meth c b L xs) (hKC : KS gC s) (hKM : KS gM s) (hap : ∀ i j, i < 52 → j < 25 → gC.2.1 i ≠ gM.2.1 j) (hS : ∀ (τ σ : St), Rel τ σ → ∀ (a1 : Int32) , ∃ (τ' σ' : St) (r : Int32), fX10_keep τ a1 = some (τ', r) ∧ fX11_keep σ a1 = some (σ', r) ∧ Rel τ' σ') {τ σ : St} (hR : Rel τ σ) {H : Heap} {locs : List Loc} (hsC : HW 52 entC gC (fun q : Nat => s.heap.size ≤ q) s.heap H locs τ) (hsM : HW 25 entM gM (fun q : Nat => s.heap.size ≤ q) s.heap H locs σ) {i : Nat} (hi : i + 6 ≤ L) {ls : Array Slot} (hl : lv_has ls 4 [(0, .ref b), (1, .ref (gC.2.1 0)), (2, .ref (gM.2.1 0)), (3, .int (nI i))]) (kk : ∀ (τ σ : St) (H : Heap) (locs : List Loc) (ls : Array Slot), Rel τ σ → HW 52 entC gC (fun q : Nat => s.heap.size ≤ q) s.heap H locs τ → HW 25 entM gM (fun q : Nat => s.heap.size ≤ q) s.heap H locs σ → lv_has ls 4 [(0, .ref b), (1, .ref (gC.2.1 0)), (2, .ref (gM.2.1 0)), (3, .int (nI i))] → W p l e room_1 s m #[Value.ref b] below meth c H locs 600000 7302250 Q (F0 m 1499 ls [])) : W p l e room_1 s m #[Value.ref b] below meth c H locs 600000 7302250 Q (F0 m 894 ls []) := by
  have C := cf_law C0
  obtain ⟨hx, hb, hr, hml, hown, hts, hX, hbl, hlocks, hgv⟩ := id C0
  have hA : ∀ q : Nat, s.heap.size ≤ q → (fun q : Nat => s.heap.size ≤ q) q := fun _ h => h
  have hbA : ¬ (fun q : Nat => s.heap.size ≤ q) b := Nat.not_le.mpr hbl
  obtain ⟨τ1, σ1, r, hE1, hE2, hR1⟩ := hS τ σ hR (xs (nI i + 1).toNatClampNeg)
  refine lv_aload_n hx hb dL_law_894 rfl (lv_at hl 1 rfl) ?_
  refine lv_aload_n hx hb dL_law_895 rfl (lv_at hl 0 rfl) ?_
  refine lv_iload_n hx hb dL_law_896 rfl (lv_at hl 3 rfl) ?_
  refine lv_iconst (v := 1) hx hb dL_law_897 (by decide) ?_
  refine lv_iadd hx hb dL_law_898 ?_
  refine va_sld hx hb hX hbl hbA hsC.2.2 (nI_k (k := 1) hi hL (by decide)) dL_law_899 ?_
  refine xl_civ (As := [.int (xs (nI i + 1).toNatClampNeg)]) (rest := []) C hl.1 hKC hsC hA ⟨Nat.le_refl _, Nat.le_refl _⟩ (ctX10_keep l gC _ _ _ _ hE1) (cw_L_99 C ⟨Nat.le_of_ble_eq_true rfl, Nat.le_of_ble_eq_true rfl⟩) (hsC.recv hKC 0 (by decide) rfl rfl) rfl rfl (Nat.le_of_ble_eq_true rfl) dL_law_900 (fun H1 locs1 hsC hk => ?_)
  have hsM := hsM.other (fun i j hi hj e => hap j i hj hi e.symm) hk hsC
  refine lv_aload_n hx hb dL_law_903 rfl (lv_at hl 2 rfl) ?_
  refine lv_aload_n hx hb dL_law_904 rfl (lv_at hl 0 rfl) ?_
  refine lv_iload_n hx hb dL_law_905 rfl (lv_at hl 3 rfl) ?_
  refine lv_iconst (v := 1) hx hb dL_law_906 (by decide) ?_
  refine lv_iadd hx hb dL_law_907 ?_
  refine va_sld hx hb hX hbl hbA hsC.2.2 (nI_k (k := 1) hi hL (by decide)) dL_law_908 ?_
  refine xl_civ (As := [.int (xs (nI i + 1).toNatClampNeg)]) (rest := [.int r]) C hl.1 hKM hsM hA ⟨Nat.le_refl _, Nat.le_refl _⟩ (ctX11_keep l gM _ _ _ _ hE2) (cw_L_102 C ⟨Nat.le_of_ble_eq_true rfl, Nat.le_of_ble_eq_true rfl⟩) (hsM.recv hKM 0 (by decide) rfl rfl) rfl rfl (Nat.le_of_ble_eq_true rfl) dL_law_909 (fun H2 locs2 hsM hk => ?_)
  have hsC := hsC.other hap hk hsM
  refine lv_icmp_eq (tgt := 1499) hx hb dL_law_912 (by decide) (fun hc => ?_) (fun hc => ?_)
  · exact kk τ1 σ1 H2 locs2 ls hR1 hsC hsM hl
  · exact absurd rfl hc
set_option maxHeartbeats 4000000 in
set_option maxRecDepth 100000 in
theorem lc_on {p : Program} {l : Launch} {e : Env} {s : State} {m : MethodId} {below : List Frame} {meth : Method} {c : Code} {b L : Nat} {xs : Nat → Int32} {Q : State → Prop} {gC gM : GG} {Rel : St → St → Prop} (hL : L ≤ 3072) (C0 : lw_At p s m meth c b L xs) (hKC : KS gC s) (hKM : KS gM s) (hap : ∀ i j, i < 52 → j < 25 → gC.2.1 i ≠ gM.2.1 j) (hS : ∀ (τ σ : St), Rel τ σ → ∀ (a1 : Int32) , ∃ (τ' σ' : St) (r : Int32), fX10_on τ a1 = some (τ', r) ∧ fX11_on σ a1 = some (σ', r) ∧ Rel τ' σ') {τ σ : St} (hR : Rel τ σ) {H : Heap} {locs : List Loc} (hsC : HW 52 entC gC (fun q : Nat => s.heap.size ≤ q) s.heap H locs τ) (hsM : HW 25 entM gM (fun q : Nat => s.heap.size ≤ q) s.heap H locs σ) {i : Nat} (hi : i + 6 ≤ L) {ls : Array Slot} (hl : lv_has ls 4 [(0, .ref b), (1, .ref (gC.2.1 0)), (2, .ref (gM.2.1 0)), (3, .int (nI i))]) (kk : ∀ (τ σ : St) (H : Heap) (locs : List Loc) (ls : Array Slot), Rel τ σ → HW 52 entC gC (fun q : Nat => s.heap.size ≤ q) s.heap H locs τ → HW 25 entM gM (fun q : Nat => s.heap.size ≤ q) s.heap H locs σ → lv_has ls 4 [(0, .ref b), (1, .ref (gC.2.1 0)), (2, .ref (gM.2.1 0)), (3, .int (nI i))] → W p l e room_1 s m #[Value.ref b] below meth c H locs 600000 7302250 Q (F0 m 1499 ls [])) : W p l e room_1 s m #[Value.ref b] below meth c H locs 600000 7302250 Q (F0 m 917 ls []) := by
  have C := cf_law C0
  obtain ⟨hx, hb, hr, hml, hown, hts, hX, hbl, hlocks, hgv⟩ := id C0
  have hA : ∀ q : Nat, s.heap.size ≤ q → (fun q : Nat => s.heap.size ≤ q) q := fun _ h => h
  have hbA : ¬ (fun q : Nat => s.heap.size ≤ q) b := Nat.not_le.mpr hbl
  obtain ⟨τ1, σ1, r, hE1, hE2, hR1⟩ := hS τ σ hR (xs (nI i + 1).toNatClampNeg)
  refine lv_aload_n hx hb dL_law_917 rfl (lv_at hl 1 rfl) ?_
  refine lv_aload_n hx hb dL_law_918 rfl (lv_at hl 0 rfl) ?_
  refine lv_iload_n hx hb dL_law_919 rfl (lv_at hl 3 rfl) ?_
  refine lv_iconst (v := 1) hx hb dL_law_920 (by decide) ?_
  refine lv_iadd hx hb dL_law_921 ?_
  refine va_sld hx hb hX hbl hbA hsC.2.2 (nI_k (k := 1) hi hL (by decide)) dL_law_922 ?_
  refine xl_civ (As := [.int (xs (nI i + 1).toNatClampNeg)]) (rest := []) C hl.1 hKC hsC hA ⟨Nat.le_refl _, Nat.le_refl _⟩ (ctX10_on l gC _ _ _ _ hE1) (cw_L_103 C ⟨Nat.le_of_ble_eq_true rfl, Nat.le_of_ble_eq_true rfl⟩) (hsC.recv hKC 0 (by decide) rfl rfl) rfl rfl (Nat.le_of_ble_eq_true rfl) dL_law_923 (fun H1 locs1 hsC hk => ?_)
  have hsM := hsM.other (fun i j hi hj e => hap j i hj hi e.symm) hk hsC
  refine lv_aload_n hx hb dL_law_926 rfl (lv_at hl 2 rfl) ?_
  refine lv_aload_n hx hb dL_law_927 rfl (lv_at hl 0 rfl) ?_
  refine lv_iload_n hx hb dL_law_928 rfl (lv_at hl 3 rfl) ?_
  refine lv_iconst (v := 1) hx hb dL_law_929 (by decide) ?_
  refine lv_iadd hx hb dL_law_930 ?_
  refine va_sld hx hb hX hbl hbA hsC.2.2 (nI_k (k := 1) hi hL (by decide)) dL_law_931 ?_
  refine xl_civ (As := [.int (xs (nI i + 1).toNatClampNeg)]) (rest := [.int r]) C hl.1 hKM hsM hA ⟨Nat.le_refl _, Nat.le_refl _⟩ (ctX11_on l gM _ _ _ _ hE2) (cw_L_106 C ⟨Nat.le_of_ble_eq_true rfl, Nat.le_of_ble_eq_true rfl⟩) (hsM.recv hKM 0 (by decide) rfl rfl) rfl rfl (Nat.le_of_ble_eq_true rfl) dL_law_932 (fun H2 locs2 hsM hk => ?_)
  have hsC := hsC.other hap hk hsM
  refine lv_icmp_eq (tgt := 1499) hx hb dL_law_935 (by decide) (fun hc => ?_) (fun hc => ?_)
  · exact kk τ1 σ1 H2 locs2 ls hR1 hsC hsM hl
  · exact absurd rfl hc
