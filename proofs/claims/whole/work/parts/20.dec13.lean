theorem od_0_828 : decode (ov_byt 0) 828 = .ok (.aload_n 0, 1) := by decide +kernel
theorem od_0_829 : decode (ov_byt 0) 829 = .ok (.iload_n 3, 1) := by decide +kernel
theorem od_0_830 : decode (ov_byt 0) 830 = .ok (.iconst 1, 1) := by decide +kernel
theorem od_0_831 : decode (ov_byt 0) 831 = .ok (.iadd, 1) := by decide +kernel
theorem od_0_832 : decode (ov_byt 0) 832 = .ok (.iaload, 1) := by decide +kernel
theorem od_0_833 : decode (ov_byt 0) 833 = .ok (.aload_n 0, 1) := by decide +kernel
theorem od_0_834 : decode (ov_byt 0) 834 = .ok (.iload_n 3, 1) := by decide +kernel
theorem od_0_835 : decode (ov_byt 0) 835 = .ok (.iconst 2, 1) := by decide +kernel
theorem od_0_836 : decode (ov_byt 0) 836 = .ok (.iadd, 1) := by decide +kernel
theorem od_0_837 : decode (ov_byt 0) 837 = .ok (.iaload, 1) := by decide +kernel
theorem oc_0_838 : ov_CL 0 838 1 123 := ⟨113, (781, 782, 783), (by show decode (ov_byt 0) 838 = Except.ok (Instr.invokevirtual 113, 3); decide +kernel), by decide +kernel⟩
theorem od_0_841 : decode (ov_byt 0) 841 = .ok (.aload_n 2, 1) := by decide +kernel
theorem od_0_842 : decode (ov_byt 0) 842 = .ok (.aload_n 0, 1) := by decide +kernel
theorem od_0_843 : decode (ov_byt 0) 843 = .ok (.iload_n 3, 1) := by decide +kernel
theorem od_0_844 : decode (ov_byt 0) 844 = .ok (.iconst 1, 1) := by decide +kernel
theorem od_0_845 : decode (ov_byt 0) 845 = .ok (.iadd, 1) := by decide +kernel
theorem od_0_846 : decode (ov_byt 0) 846 = .ok (.iaload, 1) := by decide +kernel
theorem od_0_847 : decode (ov_byt 0) 847 = .ok (.aload_n 0, 1) := by decide +kernel
theorem od_0_848 : decode (ov_byt 0) 848 = .ok (.iload_n 3, 1) := by decide +kernel
theorem od_0_849 : decode (ov_byt 0) 849 = .ok (.iconst 2, 1) := by decide +kernel
theorem od_0_850 : decode (ov_byt 0) 850 = .ok (.iadd, 1) := by decide +kernel
theorem od_0_851 : decode (ov_byt 0) 851 = .ok (.iaload, 1) := by decide +kernel
theorem oc_0_852 : ov_CL 0 852 1 215 := ⟨116, (1284, 1285, 1286), (by show decode (ov_byt 0) 852 = Except.ok (Instr.invokevirtual 116, 3); decide +kernel), by decide +kernel⟩
theorem od_0_858 : decode (ov_byt 0) 858 = .ok (.iconst 0, 1) := by decide +kernel
theorem od_0_859 : decode (ov_byt 0) 859 = .ok (.ireturn, 1) := by decide +kernel
theorem od_0_855 : decode (ov_byt 0) 855 = .ok (.if_icmp .eq 256, 3) := by decide +kernel
theorem od_0_860 : decode (ov_byt 0) 860 = .ok (.aload_n 1, 1) := by decide +kernel
theorem oc_0_861 : ov_CL 0 861 1 125 := ⟨117, (789, 790, 791), (by show decode (ov_byt 0) 861 = Except.ok (Instr.invokevirtual 117, 3); decide +kernel), by decide +kernel⟩
theorem od_0_864 : decode (ov_byt 0) 864 = .ok (.aload_n 2, 1) := by decide +kernel
theorem oc_0_865 : ov_CL 0 865 1 216 := ⟨120, (1289, 1290, 1291), (by show decode (ov_byt 0) 865 = Except.ok (Instr.invokevirtual 120, 3); decide +kernel), by decide +kernel⟩
theorem od_0_871 : decode (ov_byt 0) 871 = .ok (.iconst 0, 1) := by decide +kernel
theorem od_0_872 : decode (ov_byt 0) 872 = .ok (.ireturn, 1) := by decide +kernel
theorem od_0_868 : decode (ov_byt 0) 868 = .ok (.if_icmp .eq 243, 3) := by decide +kernel
theorem od_0_873 : decode (ov_byt 0) 873 = .ok (.aload_n 1, 1) := by decide +kernel
theorem oc_0_874 : ov_CL 0 874 1 127 := ⟨121, (797, 798, 799), (by show decode (ov_byt 0) 874 = Except.ok (Instr.invokevirtual 121, 3); decide +kernel), by decide +kernel⟩
theorem od_0_877 : decode (ov_byt 0) 877 = .ok (.aload_n 2, 1) := by decide +kernel
theorem oc_0_878 : ov_CL 0 878 1 217 := ⟨124, (1293, 1294, 1295), (by show decode (ov_byt 0) 878 = Except.ok (Instr.invokevirtual 124, 3); decide +kernel), by decide +kernel⟩
theorem od_0_884 : decode (ov_byt 0) 884 = .ok (.iconst 0, 1) := by decide +kernel
theorem od_0_885 : decode (ov_byt 0) 885 = .ok (.ireturn, 1) := by decide +kernel
theorem od_0_881 : decode (ov_byt 0) 881 = .ok (.if_icmp .eq 230, 3) := by decide +kernel
theorem od_0_886 : decode (ov_byt 0) 886 = .ok (.aload_n 1, 1) := by decide +kernel
theorem od_0_887 : decode (ov_byt 0) 887 = .ok (.aload_n 0, 1) := by decide +kernel
theorem od_0_888 : decode (ov_byt 0) 888 = .ok (.iload_n 3, 1) := by decide +kernel
theorem od_0_889 : decode (ov_byt 0) 889 = .ok (.iconst 1, 1) := by decide +kernel
theorem od_0_890 : decode (ov_byt 0) 890 = .ok (.iadd, 1) := by decide +kernel
theorem od_0_891 : decode (ov_byt 0) 891 = .ok (.iaload, 1) := by decide +kernel
theorem od_0_892 : decode (ov_byt 0) 892 = .ok (.aload_n 0, 1) := by decide +kernel
theorem od_0_893 : decode (ov_byt 0) 893 = .ok (.iload_n 3, 1) := by decide +kernel
theorem od_0_894 : decode (ov_byt 0) 894 = .ok (.iconst 2, 1) := by decide +kernel
theorem od_0_895 : decode (ov_byt 0) 895 = .ok (.iadd, 1) := by decide +kernel
theorem od_0_896 : decode (ov_byt 0) 896 = .ok (.iaload, 1) := by decide +kernel
theorem od_0_897 : decode (ov_byt 0) 897 = .ok (.aload_n 0, 1) := by decide +kernel
theorem od_0_898 : decode (ov_byt 0) 898 = .ok (.iload_n 3, 1) := by decide +kernel
theorem od_0_899 : decode (ov_byt 0) 899 = .ok (.iconst 3, 1) := by decide +kernel
theorem od_0_900 : decode (ov_byt 0) 900 = .ok (.iadd, 1) := by decide +kernel
theorem od_0_901 : decode (ov_byt 0) 901 = .ok (.iaload, 1) := by decide +kernel
theorem oc_0_902 : ov_CL 0 902 1 129 := ⟨125, (808, 809, 810), (by show decode (ov_byt 0) 902 = Except.ok (Instr.invokevirtual 125, 3); decide +kernel), by decide +kernel⟩
theorem od_0_905 : decode (ov_byt 0) 905 = .ok (.aload_n 2, 1) := by decide +kernel
theorem od_0_906 : decode (ov_byt 0) 906 = .ok (.aload_n 0, 1) := by decide +kernel
theorem od_0_907 : decode (ov_byt 0) 907 = .ok (.iload_n 3, 1) := by decide +kernel
theorem od_0_908 : decode (ov_byt 0) 908 = .ok (.iconst 1, 1) := by decide +kernel
theorem od_0_909 : decode (ov_byt 0) 909 = .ok (.iadd, 1) := by decide +kernel
theorem od_0_910 : decode (ov_byt 0) 910 = .ok (.iaload, 1) := by decide +kernel
theorem od_0_911 : decode (ov_byt 0) 911 = .ok (.aload_n 0, 1) := by decide +kernel
theorem od_0_912 : decode (ov_byt 0) 912 = .ok (.iload_n 3, 1) := by decide +kernel
theorem od_0_913 : decode (ov_byt 0) 913 = .ok (.iconst 2, 1) := by decide +kernel
theorem od_0_914 : decode (ov_byt 0) 914 = .ok (.iadd, 1) := by decide +kernel
theorem od_0_915 : decode (ov_byt 0) 915 = .ok (.iaload, 1) := by decide +kernel
theorem od_0_916 : decode (ov_byt 0) 916 = .ok (.aload_n 0, 1) := by decide +kernel
theorem od_0_917 : decode (ov_byt 0) 917 = .ok (.iload_n 3, 1) := by decide +kernel
theorem od_0_918 : decode (ov_byt 0) 918 = .ok (.iconst 3, 1) := by decide +kernel
theorem od_0_919 : decode (ov_byt 0) 919 = .ok (.iadd, 1) := by decide +kernel
theorem od_0_920 : decode (ov_byt 0) 920 = .ok (.iaload, 1) := by decide +kernel
theorem oc_0_921 : ov_CL 0 921 1 218 := ⟨129, (1297, 1298, 1299), (by show decode (ov_byt 0) 921 = Except.ok (Instr.invokevirtual 129, 3); decide +kernel), by decide +kernel⟩
theorem od_0_927 : decode (ov_byt 0) 927 = .ok (.iconst 0, 1) := by decide +kernel
theorem od_0_928 : decode (ov_byt 0) 928 = .ok (.ireturn, 1) := by decide +kernel
theorem od_0_924 : decode (ov_byt 0) 924 = .ok (.if_icmp .eq 187, 3) := by decide +kernel
theorem od_0_929 : decode (ov_byt 0) 929 = .ok (.aload_n 1, 1) := by decide +kernel
theorem od_0_930 : decode (ov_byt 0) 930 = .ok (.aload_n 0, 1) := by decide +kernel
theorem od_0_931 : decode (ov_byt 0) 931 = .ok (.iload_n 3, 1) := by decide +kernel
theorem od_0_932 : decode (ov_byt 0) 932 = .ok (.iconst 1, 1) := by decide +kernel
theorem od_0_933 : decode (ov_byt 0) 933 = .ok (.iadd, 1) := by decide +kernel
theorem od_0_934 : decode (ov_byt 0) 934 = .ok (.iaload, 1) := by decide +kernel
theorem od_0_935 : decode (ov_byt 0) 935 = .ok (.aload_n 0, 1) := by decide +kernel
theorem od_0_936 : decode (ov_byt 0) 936 = .ok (.iload_n 3, 1) := by decide +kernel
theorem od_0_937 : decode (ov_byt 0) 937 = .ok (.iconst 2, 1) := by decide +kernel
theorem od_0_938 : decode (ov_byt 0) 938 = .ok (.iadd, 1) := by decide +kernel
theorem od_0_939 : decode (ov_byt 0) 939 = .ok (.iaload, 1) := by decide +kernel
theorem od_0_940 : decode (ov_byt 0) 940 = .ok (.aload_n 0, 1) := by decide +kernel
theorem od_0_941 : decode (ov_byt 0) 941 = .ok (.iload_n 3, 1) := by decide +kernel
theorem od_0_942 : decode (ov_byt 0) 942 = .ok (.iconst 3, 1) := by decide +kernel
theorem od_0_943 : decode (ov_byt 0) 943 = .ok (.iadd, 1) := by decide +kernel
theorem od_0_944 : decode (ov_byt 0) 944 = .ok (.iaload, 1) := by decide +kernel
theorem od_0_952 : decode (ov_byt 0) 952 = .ok (.iconst 0, 1) := by decide +kernel
theorem oc_0_953 : ov_CL 0 953 1 136 := ⟨130, (839, 840, 841), (by show decode (ov_byt 0) 953 = Except.ok (Instr.invokevirtual 130, 3); decide +kernel), by decide +kernel⟩
theorem od_0_956 : decode (ov_byt 0) 956 = .ok (.aload_n 2, 1) := by decide +kernel
theorem od_0_957 : decode (ov_byt 0) 957 = .ok (.aload_n 0, 1) := by decide +kernel
theorem od_0_958 : decode (ov_byt 0) 958 = .ok (.iload_n 3, 1) := by decide +kernel
theorem od_0_959 : decode (ov_byt 0) 959 = .ok (.iconst 1, 1) := by decide +kernel
theorem od_0_960 : decode (ov_byt 0) 960 = .ok (.iadd, 1) := by decide +kernel
theorem od_0_961 : decode (ov_byt 0) 961 = .ok (.iaload, 1) := by decide +kernel
theorem od_0_962 : decode (ov_byt 0) 962 = .ok (.aload_n 0, 1) := by decide +kernel
theorem od_0_963 : decode (ov_byt 0) 963 = .ok (.iload_n 3, 1) := by decide +kernel
theorem od_0_964 : decode (ov_byt 0) 964 = .ok (.iconst 2, 1) := by decide +kernel
theorem od_0_965 : decode (ov_byt 0) 965 = .ok (.iadd, 1) := by decide +kernel
theorem od_0_966 : decode (ov_byt 0) 966 = .ok (.iaload, 1) := by decide +kernel
theorem od_0_967 : decode (ov_byt 0) 967 = .ok (.aload_n 0, 1) := by decide +kernel
theorem od_0_968 : decode (ov_byt 0) 968 = .ok (.iload_n 3, 1) := by decide +kernel
theorem od_0_969 : decode (ov_byt 0) 969 = .ok (.iconst 3, 1) := by decide +kernel
theorem od_0_970 : decode (ov_byt 0) 970 = .ok (.iadd, 1) := by decide +kernel
theorem od_0_971 : decode (ov_byt 0) 971 = .ok (.iaload, 1) := by decide +kernel
theorem od_0_979 : decode (ov_byt 0) 979 = .ok (.iconst 0, 1) := by decide +kernel
theorem oc_0_980 : ov_CL 0 980 1 221 := ⟨134, (1309, 1310, 1311), (by show decode (ov_byt 0) 980 = Except.ok (Instr.invokevirtual 134, 3); decide +kernel), by decide +kernel⟩
theorem od_0_986 : decode (ov_byt 0) 986 = .ok (.iconst 0, 1) := by decide +kernel
theorem od_0_987 : decode (ov_byt 0) 987 = .ok (.ireturn, 1) := by decide +kernel
theorem od_0_983 : decode (ov_byt 0) 983 = .ok (.if_icmp .eq 128, 3) := by decide +kernel
theorem od_0_975 : decode (ov_byt 0) 975 = .ok (.iconst 1, 1) := by decide +kernel
theorem od_0_976 : decode (ov_byt 0) 976 = .ok (.goto 4, 3) := by decide +kernel
theorem od_0_972 : decode (ov_byt 0) 972 = .ok (.ifCond .eq 7, 3) := by decide +kernel
theorem od_0_948 : decode (ov_byt 0) 948 = .ok (.iconst 1, 1) := by decide +kernel
theorem od_0_949 : decode (ov_byt 0) 949 = .ok (.goto 4, 3) := by decide +kernel
theorem od_0_945 : decode (ov_byt 0) 945 = .ok (.ifCond .eq 7, 3) := by decide +kernel
theorem od_0_988 : decode (ov_byt 0) 988 = .ok (.aload_n 1, 1) := by decide +kernel
theorem od_0_989 : decode (ov_byt 0) 989 = .ok (.aload_n 0, 1) := by decide +kernel
theorem od_0_990 : decode (ov_byt 0) 990 = .ok (.iload_n 3, 1) := by decide +kernel
theorem od_0_991 : decode (ov_byt 0) 991 = .ok (.iconst 1, 1) := by decide +kernel
theorem od_0_992 : decode (ov_byt 0) 992 = .ok (.iadd, 1) := by decide +kernel
theorem od_0_993 : decode (ov_byt 0) 993 = .ok (.iaload, 1) := by decide +kernel
theorem od_0_994 : decode (ov_byt 0) 994 = .ok (.i2l, 1) := by decide +kernel
theorem od_0_995 : decode (ov_byt 0) 995 = .ok (.bipush 32, 2) := by decide +kernel
theorem od_0_997 : decode (ov_byt 0) 997 = .ok (.lshl, 1) := by decide +kernel
theorem od_0_998 : decode (ov_byt 0) 998 = .ok (.aload_n 0, 1) := by decide +kernel
theorem od_0_999 : decode (ov_byt 0) 999 = .ok (.iload_n 3, 1) := by decide +kernel
theorem od_0_1000 : decode (ov_byt 0) 1000 = .ok (.iconst 2, 1) := by decide +kernel
theorem od_0_1001 : decode (ov_byt 0) 1001 = .ok (.iadd, 1) := by decide +kernel
theorem od_0_1002 : decode (ov_byt 0) 1002 = .ok (.iaload, 1) := by decide +kernel
theorem od_0_1003 : decode (ov_byt 0) 1003 = .ok (.i2l, 1) := by decide +kernel
theorem ok_0_1004 : ∃ w, ov_find ov_k2t (101 * 32 + ov_oc 0) = some ((4294967295 : Int64), w) := ⟨1335, by decide +kernel⟩
theorem od_0_1004 : decode (ov_byt 0) 1004 = .ok (.ldc2_w 101, 3) := by decide +kernel
theorem od_0_1007 : decode (ov_byt 0) 1007 = .ok (.land, 1) := by decide +kernel
theorem od_0_1008 : decode (ov_byt 0) 1008 = .ok (.lor, 1) := by decide +kernel
theorem oc_0_1009 : ov_CL 0 1009 1 138 := ⟨135, (846, 847, 848), (by show decode (ov_byt 0) 1009 = Except.ok (Instr.invokevirtual 135, 3); decide +kernel), by decide +kernel⟩
theorem od_0_1012 : decode (ov_byt 0) 1012 = .ok (.aload_n 2, 1) := by decide +kernel
theorem od_0_1013 : decode (ov_byt 0) 1013 = .ok (.aload_n 0, 1) := by decide +kernel
theorem od_0_1014 : decode (ov_byt 0) 1014 = .ok (.iload_n 3, 1) := by decide +kernel
theorem od_0_1015 : decode (ov_byt 0) 1015 = .ok (.iconst 1, 1) := by decide +kernel
theorem od_0_1016 : decode (ov_byt 0) 1016 = .ok (.iadd, 1) := by decide +kernel
theorem od_0_1017 : decode (ov_byt 0) 1017 = .ok (.iaload, 1) := by decide +kernel
theorem od_0_1018 : decode (ov_byt 0) 1018 = .ok (.i2l, 1) := by decide +kernel
theorem od_0_1019 : decode (ov_byt 0) 1019 = .ok (.bipush 32, 2) := by decide +kernel
theorem od_0_1021 : decode (ov_byt 0) 1021 = .ok (.lshl, 1) := by decide +kernel
theorem od_0_1022 : decode (ov_byt 0) 1022 = .ok (.aload_n 0, 1) := by decide +kernel
theorem od_0_1023 : decode (ov_byt 0) 1023 = .ok (.iload_n 3, 1) := by decide +kernel
theorem od_0_1024 : decode (ov_byt 0) 1024 = .ok (.iconst 2, 1) := by decide +kernel
theorem od_0_1025 : decode (ov_byt 0) 1025 = .ok (.iadd, 1) := by decide +kernel
theorem od_0_1026 : decode (ov_byt 0) 1026 = .ok (.iaload, 1) := by decide +kernel
theorem od_0_1027 : decode (ov_byt 0) 1027 = .ok (.i2l, 1) := by decide +kernel
theorem ok_0_1028 : ∃ w, ov_find ov_k2t (101 * 32 + ov_oc 0) = some ((4294967295 : Int64), w) := ⟨1335, by decide +kernel⟩
theorem od_0_1028 : decode (ov_byt 0) 1028 = .ok (.ldc2_w 101, 3) := by decide +kernel
theorem od_0_1031 : decode (ov_byt 0) 1031 = .ok (.land, 1) := by decide +kernel
theorem od_0_1032 : decode (ov_byt 0) 1032 = .ok (.lor, 1) := by decide +kernel
theorem oc_0_1033 : ov_CL 0 1033 1 222 := ⟨139, (1315, 1316, 1317), (by show decode (ov_byt 0) 1033 = Except.ok (Instr.invokevirtual 139, 3); decide +kernel), by decide +kernel⟩
theorem od_0_1036 : decode (ov_byt 0) 1036 = .ok (.lcmp, 1) := by decide +kernel
theorem od_0_1040 : decode (ov_byt 0) 1040 = .ok (.iconst 0, 1) := by decide +kernel
theorem od_0_1041 : decode (ov_byt 0) 1041 = .ok (.ireturn, 1) := by decide +kernel
theorem od_0_1037 : decode (ov_byt 0) 1037 = .ok (.ifCond .eq 74, 3) := by decide +kernel
theorem od_0_1042 : decode (ov_byt 0) 1042 = .ok (.aload_n 1, 1) := by decide +kernel
theorem od_0_1043 : decode (ov_byt 0) 1043 = .ok (.aload_n 0, 1) := by decide +kernel
theorem od_0_1044 : decode (ov_byt 0) 1044 = .ok (.iload_n 3, 1) := by decide +kernel
theorem od_0_1045 : decode (ov_byt 0) 1045 = .ok (.iconst 1, 1) := by decide +kernel
theorem od_0_1046 : decode (ov_byt 0) 1046 = .ok (.iadd, 1) := by decide +kernel
theorem od_0_1047 : decode (ov_byt 0) 1047 = .ok (.iaload, 1) := by decide +kernel
theorem oc_0_1048 : ov_CL 0 1048 1 139 := ⟨140, (850, 851, 852), (by show decode (ov_byt 0) 1048 = Except.ok (Instr.invokevirtual 140, 3); decide +kernel), by decide +kernel⟩
theorem od_0_1051 : decode (ov_byt 0) 1051 = .ok (.aload_n 2, 1) := by decide +kernel
theorem od_0_1052 : decode (ov_byt 0) 1052 = .ok (.aload_n 0, 1) := by decide +kernel
theorem od_0_1053 : decode (ov_byt 0) 1053 = .ok (.iload_n 3, 1) := by decide +kernel
theorem od_0_1054 : decode (ov_byt 0) 1054 = .ok (.iconst 1, 1) := by decide +kernel
theorem od_0_1055 : decode (ov_byt 0) 1055 = .ok (.iadd, 1) := by decide +kernel
theorem od_0_1056 : decode (ov_byt 0) 1056 = .ok (.iaload, 1) := by decide +kernel
theorem oc_0_1057 : ov_CL 0 1057 1 223 := ⟨143, (1319, 1320, 1321), (by show decode (ov_byt 0) 1057 = Except.ok (Instr.invokevirtual 143, 3); decide +kernel), by decide +kernel⟩
theorem od_0_1063 : decode (ov_byt 0) 1063 = .ok (.iconst 0, 1) := by decide +kernel
theorem od_0_1064 : decode (ov_byt 0) 1064 = .ok (.ireturn, 1) := by decide +kernel
theorem od_0_1060 : decode (ov_byt 0) 1060 = .ok (.if_icmp .eq 51, 3) := by decide +kernel
theorem od_0_1065 : decode (ov_byt 0) 1065 = .ok (.aload_n 1, 1) := by decide +kernel
theorem od_0_1066 : decode (ov_byt 0) 1066 = .ok (.aload_n 0, 1) := by decide +kernel
theorem od_0_1067 : decode (ov_byt 0) 1067 = .ok (.iload_n 3, 1) := by decide +kernel
theorem od_0_1068 : decode (ov_byt 0) 1068 = .ok (.iconst 1, 1) := by decide +kernel
theorem od_0_1069 : decode (ov_byt 0) 1069 = .ok (.iadd, 1) := by decide +kernel
theorem od_0_1070 : decode (ov_byt 0) 1070 = .ok (.iaload, 1) := by decide +kernel
theorem oc_0_1071 : ov_CL 0 1071 1 140 := ⟨144, (857, 858, 859), (by show decode (ov_byt 0) 1071 = Except.ok (Instr.invokevirtual 144, 3); decide +kernel), by decide +kernel⟩
theorem od_0_1074 : decode (ov_byt 0) 1074 = .ok (.aload_n 2, 1) := by decide +kernel
theorem od_0_1075 : decode (ov_byt 0) 1075 = .ok (.aload_n 0, 1) := by decide +kernel
theorem od_0_1076 : decode (ov_byt 0) 1076 = .ok (.iload_n 3, 1) := by decide +kernel
theorem od_0_1077 : decode (ov_byt 0) 1077 = .ok (.iconst 1, 1) := by decide +kernel
theorem od_0_1078 : decode (ov_byt 0) 1078 = .ok (.iadd, 1) := by decide +kernel
theorem od_0_1079 : decode (ov_byt 0) 1079 = .ok (.iaload, 1) := by decide +kernel
theorem oc_0_1080 : ov_CL 0 1080 1 224 := ⟨147, (1327, 1328, 1329), (by show decode (ov_byt 0) 1080 = Except.ok (Instr.invokevirtual 147, 3); decide +kernel), by decide +kernel⟩
theorem od_0_1086 : decode (ov_byt 0) 1086 = .ok (.iconst 0, 1) := by decide +kernel
theorem od_0_1087 : decode (ov_byt 0) 1087 = .ok (.ireturn, 1) := by decide +kernel
theorem od_0_1083 : decode (ov_byt 0) 1083 = .ok (.if_icmp .eq 28, 3) := by decide +kernel
theorem od_0_1088 : decode (ov_byt 0) 1088 = .ok (.aload_n 1, 1) := by decide +kernel
theorem od_0_1089 : decode (ov_byt 0) 1089 = .ok (.aload_n 0, 1) := by decide +kernel
theorem od_0_1090 : decode (ov_byt 0) 1090 = .ok (.iload_n 3, 1) := by decide +kernel
theorem od_0_1091 : decode (ov_byt 0) 1091 = .ok (.iconst 1, 1) := by decide +kernel
theorem od_0_1092 : decode (ov_byt 0) 1092 = .ok (.iadd, 1) := by decide +kernel
theorem od_0_1093 : decode (ov_byt 0) 1093 = .ok (.iaload, 1) := by decide +kernel
theorem oc_0_1094 : ov_CL 0 1094 1 141 := ⟨148, (861, 862, 863), (by show decode (ov_byt 0) 1094 = Except.ok (Instr.invokevirtual 148, 3); decide +kernel), by decide +kernel⟩
theorem od_0_1097 : decode (ov_byt 0) 1097 = .ok (.aload_n 2, 1) := by decide +kernel
theorem od_0_1098 : decode (ov_byt 0) 1098 = .ok (.aload_n 0, 1) := by decide +kernel
theorem od_0_1099 : decode (ov_byt 0) 1099 = .ok (.iload_n 3, 1) := by decide +kernel
theorem od_0_1100 : decode (ov_byt 0) 1100 = .ok (.iconst 1, 1) := by decide +kernel
theorem od_0_1101 : decode (ov_byt 0) 1101 = .ok (.iadd, 1) := by decide +kernel
theorem od_0_1102 : decode (ov_byt 0) 1102 = .ok (.iaload, 1) := by decide +kernel
theorem oc_0_1103 : ov_CL 0 1103 1 225 := ⟨151, (1331, 1332, 1333), (by show decode (ov_byt 0) 1103 = Except.ok (Instr.invokevirtual 151, 3); decide +kernel), by decide +kernel⟩
theorem od_0_1109 : decode (ov_byt 0) 1109 = .ok (.iconst 0, 1) := by decide +kernel
theorem od_0_1110 : decode (ov_byt 0) 1110 = .ok (.ireturn, 1) := by decide +kernel
theorem od_0_1106 : decode (ov_byt 0) 1106 = .ok (.if_icmp .eq 5, 3) := by decide +kernel
theorem od_0_23 : decode (ov_byt 0) 23 = .ok (.if_icmp .gt 1094, 3) := by decide +kernel
theorem od_0_1117 : decode (ov_byt 0) 1117 = .ok (.iconst 1, 1) := by decide +kernel
theorem od_0_1118 : decode (ov_byt 0) 1118 = .ok (.ireturn, 1) := by decide +kernel
