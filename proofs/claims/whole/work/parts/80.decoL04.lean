theorem d_La_law_888 : decode code 888 = .ok (.lstore 6, 2) := by decide +kernel
theorem d_La_law_890 : decode code 890 = .ok (.aload_n 2, 1) := by decide +kernel
theorem d_La_law_891 : decode code 891 = .ok (.invokevirtual 95, 3) := by decide +kernel
theorem d_La_law_894 : decode code 894 = .ok (.iload 5, 2) := by decide +kernel
theorem d_La_law_896 : decode code 896 = .ok (.if_icmp .eq 5, 3) := by decide +kernel
theorem d_La_law_899 : decode code 899 = .ok (.iconst 0, 1) := by decide +kernel
theorem d_La_law_900 : decode code 900 = .ok (.ireturn, 1) := by decide +kernel
theorem d_La_law_901 : decode code 901 = .ok (.iload 5, 2) := by decide +kernel
theorem d_La_law_903 : decode code 903 = .ok (.ifCond .ne 14, 3) := by decide +kernel
theorem d_La_law_906 : decode code 906 = .ok (.aload_n 3, 1) := by decide +kernel
theorem d_La_law_907 : decode code 907 = .ok (.iconst 0, 1) := by decide +kernel
theorem d_La_law_908 : decode code 908 = .ok (.laload, 1) := by decide +kernel
theorem d_La_law_909 : decode code 909 = .ok (.lload 6, 2) := by decide +kernel
theorem d_La_law_911 : decode code 911 = .ok (.lcmp, 1) := by decide +kernel
theorem d_La_law_912 : decode code 912 = .ok (.ifCond .eq 5, 3) := by decide +kernel
theorem d_La_law_915 : decode code 915 = .ok (.iconst 0, 1) := by decide +kernel
theorem d_La_law_916 : decode code 916 = .ok (.ireturn, 1) := by decide +kernel
theorem d_La_law_917 : decode code 917 = .ok (.goto 328, 3) := by decide +kernel
theorem d_La_law_920 : decode code 920 = .ok (.aload_n 1, 1) := by decide +kernel
theorem d_La_law_921 : decode code 921 = .ok (.invokevirtual 150, 3) := by decide +kernel
theorem d_La_law_924 : decode code 924 = .ok (.aload_n 2, 1) := by decide +kernel
theorem d_La_law_925 : decode code 925 = .ok (.invokevirtual 153, 3) := by decide +kernel
theorem d_La_law_928 : decode code 928 = .ok (.if_icmp .eq 317, 3) := by decide +kernel
theorem d_La_law_931 : decode code 931 = .ok (.iconst 0, 1) := by decide +kernel
theorem d_La_law_932 : decode code 932 = .ok (.ireturn, 1) := by decide +kernel
theorem d_La_law_933 : decode code 933 = .ok (.aload_n 1, 1) := by decide +kernel
theorem d_La_law_934 : decode code 934 = .ok (.aload_n 0, 1) := by decide +kernel
theorem d_La_law_935 : decode code 935 = .ok (.iload 4, 2) := by decide +kernel
theorem d_La_law_937 : decode code 937 = .ok (.iconst 1, 1) := by decide +kernel
theorem d_La_law_938 : decode code 938 = .ok (.iadd, 1) := by decide +kernel
theorem d_La_law_939 : decode code 939 = .ok (.iaload, 1) := by decide +kernel
theorem d_La_law_940 : decode code 940 = .ok (.invokestatic 154, 3) := by decide +kernel
theorem d_La_law_943 : decode code 943 = .ok (.istore 5, 2) := by decide +kernel
theorem d_La_law_945 : decode code 945 = .ok (.aload_n 2, 1) := by decide +kernel
theorem d_La_law_946 : decode code 946 = .ok (.aload_n 0, 1) := by decide +kernel
theorem d_La_law_947 : decode code 947 = .ok (.iload 4, 2) := by decide +kernel
theorem d_La_law_949 : decode code 949 = .ok (.iconst 1, 1) := by decide +kernel
theorem d_La_law_950 : decode code 950 = .ok (.iadd, 1) := by decide +kernel
theorem d_La_law_951 : decode code 951 = .ok (.iaload, 1) := by decide +kernel
theorem d_La_law_952 : decode code 952 = .ok (.invokevirtual 157, 3) := by decide +kernel
theorem d_La_law_955 : decode code 955 = .ok (.aload_n 2, 1) := by decide +kernel
theorem d_La_law_956 : decode code 956 = .ok (.invokevirtual 95, 3) := by decide +kernel
theorem d_La_law_959 : decode code 959 = .ok (.iload 5, 2) := by decide +kernel
theorem d_La_law_961 : decode code 961 = .ok (.if_icmp .eq 5, 3) := by decide +kernel
theorem d_La_law_964 : decode code 964 = .ok (.iconst 0, 1) := by decide +kernel
theorem d_La_law_965 : decode code 965 = .ok (.ireturn, 1) := by decide +kernel
theorem d_La_law_966 : decode code 966 = .ok (.goto 279, 3) := by decide +kernel
theorem d_La_law_969 : decode code 969 = .ok (.aload_n 1, 1) := by decide +kernel
theorem d_La_law_970 : decode code 970 = .ok (.invokevirtual 158, 3) := by decide +kernel
theorem d_La_law_973 : decode code 973 = .ok (.aload_n 2, 1) := by decide +kernel
theorem d_La_law_974 : decode code 974 = .ok (.invokevirtual 161, 3) := by decide +kernel
theorem d_La_law_977 : decode code 977 = .ok (.if_icmp .eq 268, 3) := by decide +kernel
theorem d_La_law_980 : decode code 980 = .ok (.iconst 0, 1) := by decide +kernel
theorem d_La_law_981 : decode code 981 = .ok (.ireturn, 1) := by decide +kernel
theorem d_La_law_982 : decode code 982 = .ok (.aload_n 1, 1) := by decide +kernel
theorem d_La_law_983 : decode code 983 = .ok (.invokevirtual 162, 3) := by decide +kernel
theorem d_La_law_986 : decode code 986 = .ok (.aload_n 2, 1) := by decide +kernel
theorem d_La_law_987 : decode code 987 = .ok (.invokevirtual 165, 3) := by decide +kernel
theorem d_La_law_990 : decode code 990 = .ok (.if_icmp .eq 255, 3) := by decide +kernel
theorem d_La_law_993 : decode code 993 = .ok (.iconst 0, 1) := by decide +kernel
theorem d_La_law_994 : decode code 994 = .ok (.ireturn, 1) := by decide +kernel
theorem d_La_law_995 : decode code 995 = .ok (.aload_n 1, 1) := by decide +kernel
theorem d_La_law_996 : decode code 996 = .ok (.aload_n 3, 1) := by decide +kernel
theorem d_La_law_997 : decode code 997 = .ok (.invokestatic 166, 3) := by decide +kernel
theorem d_La_law_1000 : decode code 1000 = .ok (.istore 5, 2) := by decide +kernel
theorem d_La_law_1002 : decode code 1002 = .ok (.aload_n 2, 1) := by decide +kernel
theorem d_La_law_1003 : decode code 1003 = .ok (.invokevirtual 168, 3) := by decide +kernel
theorem d_La_law_1006 : decode code 1006 = .ok (.istore 6, 2) := by decide +kernel
theorem d_La_law_1008 : decode code 1008 = .ok (.aload_n 2, 1) := by decide +kernel
theorem d_La_law_1009 : decode code 1009 = .ok (.invokevirtual 95, 3) := by decide +kernel
theorem d_La_law_1012 : decode code 1012 = .ok (.iload 5, 2) := by decide +kernel
theorem d_La_law_1014 : decode code 1014 = .ok (.if_icmp .eq 5, 3) := by decide +kernel
theorem d_La_law_1017 : decode code 1017 = .ok (.iconst 0, 1) := by decide +kernel
theorem d_La_law_1018 : decode code 1018 = .ok (.ireturn, 1) := by decide +kernel
theorem d_La_law_1019 : decode code 1019 = .ok (.iload 5, 2) := by decide +kernel
theorem d_La_law_1021 : decode code 1021 = .ok (.ifCond .ne 15, 3) := by decide +kernel
theorem d_La_law_1024 : decode code 1024 = .ok (.aload_n 3, 1) := by decide +kernel
theorem d_La_law_1025 : decode code 1025 = .ok (.iconst 0, 1) := by decide +kernel
theorem d_La_law_1026 : decode code 1026 = .ok (.laload, 1) := by decide +kernel
theorem d_La_law_1027 : decode code 1027 = .ok (.iload 6, 2) := by decide +kernel
theorem d_La_law_1029 : decode code 1029 = .ok (.i2l, 1) := by decide +kernel
theorem d_La_law_1030 : decode code 1030 = .ok (.lcmp, 1) := by decide +kernel
theorem d_La_law_1031 : decode code 1031 = .ok (.ifCond .eq 5, 3) := by decide +kernel
theorem d_La_law_1034 : decode code 1034 = .ok (.iconst 0, 1) := by decide +kernel
theorem d_La_law_1035 : decode code 1035 = .ok (.ireturn, 1) := by decide +kernel
theorem d_La_law_1036 : decode code 1036 = .ok (.goto 209, 3) := by decide +kernel
theorem d_La_law_1039 : decode code 1039 = .ok (.aload_n 1, 1) := by decide +kernel
theorem d_La_law_1040 : decode code 1040 = .ok (.aload_n 0, 1) := by decide +kernel
theorem d_La_law_1041 : decode code 1041 = .ok (.iload 4, 2) := by decide +kernel
theorem d_La_law_1043 : decode code 1043 = .ok (.iconst 1, 1) := by decide +kernel
theorem d_La_law_1044 : decode code 1044 = .ok (.iadd, 1) := by decide +kernel
theorem d_La_law_1045 : decode code 1045 = .ok (.iaload, 1) := by decide +kernel
theorem d_La_law_1046 : decode code 1046 = .ok (.i2l, 1) := by decide +kernel
theorem d_La_law_1047 : decode code 1047 = .ok (.bipush 32, 2) := by decide +kernel
theorem d_La_law_1049 : decode code 1049 = .ok (.lshl, 1) := by decide +kernel
theorem d_La_law_1050 : decode code 1050 = .ok (.aload_n 0, 1) := by decide +kernel
theorem d_La_law_1051 : decode code 1051 = .ok (.iload 4, 2) := by decide +kernel
theorem d_La_law_1053 : decode code 1053 = .ok (.iconst 2, 1) := by decide +kernel
theorem d_La_law_1054 : decode code 1054 = .ok (.iadd, 1) := by decide +kernel
theorem d_La_law_1055 : decode code 1055 = .ok (.iaload, 1) := by decide +kernel
theorem d_La_law_1056 : decode code 1056 = .ok (.i2l, 1) := by decide +kernel
theorem d_La_law_1057 : decode code 1057 = .ok (.ldc2_w 89, 3) := by decide +kernel
theorem d_La_law_1060 : decode code 1060 = .ok (.land, 1) := by decide +kernel
theorem d_La_law_1061 : decode code 1061 = .ok (.lor, 1) := by decide +kernel
theorem d_La_law_1062 : decode code 1062 = .ok (.aload_n 0, 1) := by decide +kernel
theorem d_La_law_1063 : decode code 1063 = .ok (.iload 4, 2) := by decide +kernel
theorem d_La_law_1065 : decode code 1065 = .ok (.iconst 3, 1) := by decide +kernel
theorem d_La_law_1066 : decode code 1066 = .ok (.iadd, 1) := by decide +kernel
theorem d_La_law_1067 : decode code 1067 = .ok (.iaload, 1) := by decide +kernel
theorem d_La_law_1068 : decode code 1068 = .ok (.aload_n 0, 1) := by decide +kernel
theorem d_La_law_1069 : decode code 1069 = .ok (.iload 4, 2) := by decide +kernel
theorem d_La_law_1071 : decode code 1071 = .ok (.iconst 4, 1) := by decide +kernel
theorem d_La_law_1072 : decode code 1072 = .ok (.iadd, 1) := by decide +kernel
theorem d_La_law_1073 : decode code 1073 = .ok (.iaload, 1) := by decide +kernel
theorem d_La_law_1074 : decode code 1074 = .ok (.i2l, 1) := by decide +kernel
theorem d_La_law_1075 : decode code 1075 = .ok (.bipush 32, 2) := by decide +kernel
theorem d_La_law_1077 : decode code 1077 = .ok (.lshl, 1) := by decide +kernel
theorem d_La_law_1078 : decode code 1078 = .ok (.aload_n 0, 1) := by decide +kernel
theorem d_La_law_1079 : decode code 1079 = .ok (.iload 4, 2) := by decide +kernel
theorem d_La_law_1081 : decode code 1081 = .ok (.iconst 5, 1) := by decide +kernel
