/-! laid by wip/hand/lw.py: cases of the law -/
theorem te_368_842 : (pT M_368).find? (fun e => e.1 == 842) = some (842, .aload_n 1, 0, 0) := (sk_36 842 rfl).trans rfl
theorem te_368_843 : (pT M_368).find? (fun e => e.1 == 843) = some (843, .aload_n 3, 0, 0) := (sk_36 843 rfl).trans rfl
theorem te_368_844 : (pT M_368).find? (fun e => e.1 == 844) = some (844, .invokestatic 231, 111, 8) := (sk_36 844 rfl).trans rfl
theorem te_368_847 : (pT M_368).find? (fun e => e.1 == 847) = some (847, .istore 5, 0, 0) := (sk_37 847 rfl).trans rfl
theorem te_368_849 : (pT M_368).find? (fun e => e.1 == 849) = some (849, .aload_n 2, 0, 0) := (sk_37 849 rfl).trans rfl
theorem te_368_850 : (pT M_368).find? (fun e => e.1 == 850) = some (850, .invokevirtual 233, 277, 0) := (sk_37 850 rfl).trans rfl
theorem te_368_853 : (pT M_368).find? (fun e => e.1 == 853) = some (853, .istore 6, 0, 0) := (sk_37 853 rfl).trans rfl
theorem te_368_855 : (pT M_368).find? (fun e => e.1 == 855) = some (855, .goto 1472, 0, 0) := (sk_37 855 rfl).trans rfl
theorem te_368_858 : (pT M_368).find? (fun e => e.1 == 858) = some (858, .aload_n 1, 0, 0) := (sk_37 858 rfl).trans rfl
theorem te_368_859 : (pT M_368).find? (fun e => e.1 == 859) = some (859, .aload_n 0, 0, 0) := (sk_37 859 rfl).trans rfl
theorem te_368_860 : (pT M_368).find? (fun e => e.1 == 860) = some (860, .iload 4, 0, 0) := (sk_37 860 rfl).trans rfl
theorem te_368_862 : (pT M_368).find? (fun e => e.1 == 862) = some (862, .iconst 1, 0, 0) := (sk_37 862 rfl).trans rfl
theorem te_368_863 : (pT M_368).find? (fun e => e.1 == 863) = some (863, .iadd, 0, 0) := (sk_37 863 rfl).trans rfl
theorem te_368_864 : (pT M_368).find? (fun e => e.1 == 864) = some (864, .iaload, 0, 0) := (sk_37 864 rfl).trans rfl
theorem te_368_865 : (pT M_368).find? (fun e => e.1 == 865) = some (865, .aload_n 0, 0, 0) := (sk_37 865 rfl).trans rfl
theorem te_368_866 : (pT M_368).find? (fun e => e.1 == 866) = some (866, .iload 4, 0, 0) := (sk_38 866 rfl).trans rfl
theorem te_368_868 : (pT M_368).find? (fun e => e.1 == 868) = some (868, .iconst 2, 0, 0) := (sk_38 868 rfl).trans rfl
theorem te_368_869 : (pT M_368).find? (fun e => e.1 == 869) = some (869, .iadd, 0, 0) := (sk_38 869 rfl).trans rfl
theorem te_368_870 : (pT M_368).find? (fun e => e.1 == 870) = some (870, .iaload, 0, 0) := (sk_38 870 rfl).trans rfl
theorem te_368_871 : (pT M_368).find? (fun e => e.1 == 871) = some (871, .aload_n 3, 0, 0) := (sk_38 871 rfl).trans rfl
theorem te_368_872 : (pT M_368).find? (fun e => e.1 == 872) = some (872, .invokestatic 234, 113, 8) := (sk_38 872 rfl).trans rfl
theorem te_368_875 : (pT M_368).find? (fun e => e.1 == 875) = some (875, .istore 5, 0, 0) := (sk_38 875 rfl).trans rfl
theorem te_368_877 : (pT M_368).find? (fun e => e.1 == 877) = some (877, .aload_n 2, 0, 0) := (sk_38 877 rfl).trans rfl
theorem te_368_878 : (pT M_368).find? (fun e => e.1 == 878) = some (878, .aload_n 0, 0, 0) := (sk_38 878 rfl).trans rfl
theorem te_368_879 : (pT M_368).find? (fun e => e.1 == 879) = some (879, .iload 4, 0, 0) := (sk_38 879 rfl).trans rfl
theorem te_368_881 : (pT M_368).find? (fun e => e.1 == 881) = some (881, .iconst 1, 0, 0) := (sk_38 881 rfl).trans rfl
theorem te_368_882 : (pT M_368).find? (fun e => e.1 == 882) = some (882, .iadd, 0, 0) := (sk_38 882 rfl).trans rfl
theorem te_368_883 : (pT M_368).find? (fun e => e.1 == 883) = some (883, .iaload, 0, 0) := (sk_39 883 rfl).trans rfl
theorem te_368_884 : (pT M_368).find? (fun e => e.1 == 884) = some (884, .aload_n 0, 0, 0) := (sk_39 884 rfl).trans rfl
theorem te_368_885 : (pT M_368).find? (fun e => e.1 == 885) = some (885, .iload 4, 0, 0) := (sk_39 885 rfl).trans rfl
theorem te_368_887 : (pT M_368).find? (fun e => e.1 == 887) = some (887, .iconst 2, 0, 0) := (sk_39 887 rfl).trans rfl
theorem te_368_888 : (pT M_368).find? (fun e => e.1 == 888) = some (888, .iadd, 0, 0) := (sk_39 888 rfl).trans rfl
theorem te_368_889 : (pT M_368).find? (fun e => e.1 == 889) = some (889, .iaload, 0, 0) := (sk_39 889 rfl).trans rfl
theorem te_368_890 : (pT M_368).find? (fun e => e.1 == 890) = some (890, .invokevirtual 236, 278, 0) := (sk_39 890 rfl).trans rfl
theorem te_368_893 : (pT M_368).find? (fun e => e.1 == 893) = some (893, .istore 6, 0, 0) := (sk_39 893 rfl).trans rfl
theorem te_368_895 : (pT M_368).find? (fun e => e.1 == 895) = some (895, .goto 1432, 0, 0) := (sk_39 895 rfl).trans rfl
theorem te_368_898 : (pT M_368).find? (fun e => e.1 == 898) = some (898, .aload_n 1, 0, 0) := (sk_39 898 rfl).trans rfl
theorem te_368_899 : (pT M_368).find? (fun e => e.1 == 899) = some (899, .aload_n 0, 0, 0) := (sk_39 899 rfl).trans rfl
theorem te_368_900 : (pT M_368).find? (fun e => e.1 == 900) = some (900, .iload 4, 0, 0) := (sk_39 900 rfl).trans rfl
theorem te_368_902 : (pT M_368).find? (fun e => e.1 == 902) = some (902, .iconst 1, 0, 0) := (sk_40 902 rfl).trans rfl
theorem te_368_903 : (pT M_368).find? (fun e => e.1 == 903) = some (903, .iadd, 0, 0) := (sk_40 903 rfl).trans rfl
theorem te_368_904 : (pT M_368).find? (fun e => e.1 == 904) = some (904, .iaload, 0, 0) := (sk_40 904 rfl).trans rfl
theorem te_368_905 : (pT M_368).find? (fun e => e.1 == 905) = some (905, .aload_n 0, 0, 0) := (sk_40 905 rfl).trans rfl
theorem te_368_906 : (pT M_368).find? (fun e => e.1 == 906) = some (906, .iload 4, 0, 0) := (sk_40 906 rfl).trans rfl
theorem te_368_908 : (pT M_368).find? (fun e => e.1 == 908) = some (908, .iconst 2, 0, 0) := (sk_40 908 rfl).trans rfl
theorem te_368_909 : (pT M_368).find? (fun e => e.1 == 909) = some (909, .iadd, 0, 0) := (sk_40 909 rfl).trans rfl
theorem te_368_910 : (pT M_368).find? (fun e => e.1 == 910) = some (910, .iaload, 0, 0) := (sk_40 910 rfl).trans rfl
theorem te_368_911 : (pT M_368).find? (fun e => e.1 == 911) = some (911, .aload_n 0, 0, 0) := (sk_40 911 rfl).trans rfl
theorem te_368_912 : (pT M_368).find? (fun e => e.1 == 912) = some (912, .iload 4, 0, 0) := (sk_40 912 rfl).trans rfl
theorem te_368_914 : (pT M_368).find? (fun e => e.1 == 914) = some (914, .iconst 3, 0, 0) := (sk_40 914 rfl).trans rfl
theorem te_368_915 : (pT M_368).find? (fun e => e.1 == 915) = some (915, .iadd, 0, 0) := (sk_40 915 rfl).trans rfl
theorem te_368_916 : (pT M_368).find? (fun e => e.1 == 916) = some (916, .iaload, 0, 0) := (sk_41 916 rfl).trans rfl
theorem te_368_917 : (pT M_368).find? (fun e => e.1 == 917) = some (917, .aload_n 3, 0, 0) := (sk_41 917 rfl).trans rfl
theorem te_368_918 : (pT M_368).find? (fun e => e.1 == 918) = some (918, .invokestatic 237, 116, 8) := (sk_41 918 rfl).trans rfl
theorem te_368_921 : (pT M_368).find? (fun e => e.1 == 921) = some (921, .istore 5, 0, 0) := (sk_41 921 rfl).trans rfl
theorem te_368_923 : (pT M_368).find? (fun e => e.1 == 923) = some (923, .aload_n 2, 0, 0) := (sk_41 923 rfl).trans rfl
theorem te_368_924 : (pT M_368).find? (fun e => e.1 == 924) = some (924, .aload_n 0, 0, 0) := (sk_41 924 rfl).trans rfl
theorem te_368_925 : (pT M_368).find? (fun e => e.1 == 925) = some (925, .iload 4, 0, 0) := (sk_41 925 rfl).trans rfl
theorem te_368_927 : (pT M_368).find? (fun e => e.1 == 927) = some (927, .iconst 1, 0, 0) := (sk_41 927 rfl).trans rfl
theorem te_368_928 : (pT M_368).find? (fun e => e.1 == 928) = some (928, .iadd, 0, 0) := (sk_41 928 rfl).trans rfl
theorem te_368_929 : (pT M_368).find? (fun e => e.1 == 929) = some (929, .iaload, 0, 0) := (sk_41 929 rfl).trans rfl
theorem te_368_930 : (pT M_368).find? (fun e => e.1 == 930) = some (930, .aload_n 0, 0, 0) := (sk_41 930 rfl).trans rfl
theorem te_368_931 : (pT M_368).find? (fun e => e.1 == 931) = some (931, .iload 4, 0, 0) := (sk_41 931 rfl).trans rfl
theorem te_368_933 : (pT M_368).find? (fun e => e.1 == 933) = some (933, .iconst 2, 0, 0) := (sk_42 933 rfl).trans rfl
theorem te_368_934 : (pT M_368).find? (fun e => e.1 == 934) = some (934, .iadd, 0, 0) := (sk_42 934 rfl).trans rfl
theorem te_368_935 : (pT M_368).find? (fun e => e.1 == 935) = some (935, .iaload, 0, 0) := (sk_42 935 rfl).trans rfl
theorem te_368_936 : (pT M_368).find? (fun e => e.1 == 936) = some (936, .aload_n 0, 0, 0) := (sk_42 936 rfl).trans rfl
theorem te_368_937 : (pT M_368).find? (fun e => e.1 == 937) = some (937, .iload 4, 0, 0) := (sk_42 937 rfl).trans rfl
theorem te_368_939 : (pT M_368).find? (fun e => e.1 == 939) = some (939, .iconst 3, 0, 0) := (sk_42 939 rfl).trans rfl
theorem te_368_940 : (pT M_368).find? (fun e => e.1 == 940) = some (940, .iadd, 0, 0) := (sk_42 940 rfl).trans rfl
theorem te_368_941 : (pT M_368).find? (fun e => e.1 == 941) = some (941, .iaload, 0, 0) := (sk_42 941 rfl).trans rfl
theorem te_368_942 : (pT M_368).find? (fun e => e.1 == 942) = some (942, .invokevirtual 239, 279, 0) := (sk_42 942 rfl).trans rfl
theorem te_368_945 : (pT M_368).find? (fun e => e.1 == 945) = some (945, .istore 6, 0, 0) := (sk_42 945 rfl).trans rfl
theorem te_368_947 : (pT M_368).find? (fun e => e.1 == 947) = some (947, .goto 1380, 0, 0) := (sk_42 947 rfl).trans rfl
theorem te_368_950 : (pT M_368).find? (fun e => e.1 == 950) = some (950, .aload_n 1, 0, 0) := (sk_42 950 rfl).trans rfl
theorem te_368_951 : (pT M_368).find? (fun e => e.1 == 951) = some (951, .aload_n 0, 0, 0) := (sk_43 951 rfl).trans rfl
theorem te_368_952 : (pT M_368).find? (fun e => e.1 == 952) = some (952, .iload 4, 0, 0) := (sk_43 952 rfl).trans rfl
theorem te_368_954 : (pT M_368).find? (fun e => e.1 == 954) = some (954, .iconst 1, 0, 0) := (sk_43 954 rfl).trans rfl
theorem te_368_955 : (pT M_368).find? (fun e => e.1 == 955) = some (955, .iadd, 0, 0) := (sk_43 955 rfl).trans rfl
theorem te_368_956 : (pT M_368).find? (fun e => e.1 == 956) = some (956, .iaload, 0, 0) := (sk_43 956 rfl).trans rfl
theorem te_368_957 : (pT M_368).find? (fun e => e.1 == 957) = some (957, .aload_n 0, 0, 0) := (sk_43 957 rfl).trans rfl
theorem te_368_958 : (pT M_368).find? (fun e => e.1 == 958) = some (958, .iload 4, 0, 0) := (sk_43 958 rfl).trans rfl
theorem te_368_960 : (pT M_368).find? (fun e => e.1 == 960) = some (960, .iconst 2, 0, 0) := (sk_43 960 rfl).trans rfl
theorem te_368_961 : (pT M_368).find? (fun e => e.1 == 961) = some (961, .iadd, 0, 0) := (sk_43 961 rfl).trans rfl
theorem te_368_962 : (pT M_368).find? (fun e => e.1 == 962) = some (962, .iaload, 0, 0) := (sk_43 962 rfl).trans rfl
theorem te_368_963 : (pT M_368).find? (fun e => e.1 == 963) = some (963, .aload_n 3, 0, 0) := (sk_43 963 rfl).trans rfl
theorem te_368_964 : (pT M_368).find? (fun e => e.1 == 964) = some (964, .invokestatic 240, 121, 8) := (sk_43 964 rfl).trans rfl
theorem te_368_967 : (pT M_368).find? (fun e => e.1 == 967) = some (967, .istore 5, 0, 0) := (sk_44 967 rfl).trans rfl
theorem te_368_969 : (pT M_368).find? (fun e => e.1 == 969) = some (969, .aload_n 2, 0, 0) := (sk_44 969 rfl).trans rfl
theorem te_368_970 : (pT M_368).find? (fun e => e.1 == 970) = some (970, .aload_n 0, 0, 0) := (sk_44 970 rfl).trans rfl
theorem te_368_971 : (pT M_368).find? (fun e => e.1 == 971) = some (971, .iload 4, 0, 0) := (sk_44 971 rfl).trans rfl
theorem te_368_973 : (pT M_368).find? (fun e => e.1 == 973) = some (973, .iconst 1, 0, 0) := (sk_44 973 rfl).trans rfl
theorem te_368_974 : (pT M_368).find? (fun e => e.1 == 974) = some (974, .iadd, 0, 0) := (sk_44 974 rfl).trans rfl
theorem te_368_975 : (pT M_368).find? (fun e => e.1 == 975) = some (975, .iaload, 0, 0) := (sk_44 975 rfl).trans rfl
theorem te_368_976 : (pT M_368).find? (fun e => e.1 == 976) = some (976, .aload_n 0, 0, 0) := (sk_44 976 rfl).trans rfl
theorem te_368_977 : (pT M_368).find? (fun e => e.1 == 977) = some (977, .iload 4, 0, 0) := (sk_44 977 rfl).trans rfl
theorem te_368_979 : (pT M_368).find? (fun e => e.1 == 979) = some (979, .iconst 2, 0, 0) := (sk_44 979 rfl).trans rfl
theorem te_368_980 : (pT M_368).find? (fun e => e.1 == 980) = some (980, .iadd, 0, 0) := (sk_44 980 rfl).trans rfl
theorem te_368_981 : (pT M_368).find? (fun e => e.1 == 981) = some (981, .iaload, 0, 0) := (sk_44 981 rfl).trans rfl
theorem te_368_982 : (pT M_368).find? (fun e => e.1 == 982) = some (982, .invokevirtual 242, 280, 0) := (sk_45 982 rfl).trans rfl
theorem te_368_985 : (pT M_368).find? (fun e => e.1 == 985) = some (985, .istore 6, 0, 0) := (sk_45 985 rfl).trans rfl
theorem te_368_987 : (pT M_368).find? (fun e => e.1 == 987) = some (987, .goto 1340, 0, 0) := (sk_45 987 rfl).trans rfl
theorem te_368_990 : (pT M_368).find? (fun e => e.1 == 990) = some (990, .aload_n 1, 0, 0) := (sk_45 990 rfl).trans rfl
theorem te_368_991 : (pT M_368).find? (fun e => e.1 == 991) = some (991, .aload_n 0, 0, 0) := (sk_45 991 rfl).trans rfl
theorem te_368_992 : (pT M_368).find? (fun e => e.1 == 992) = some (992, .iload 4, 0, 0) := (sk_45 992 rfl).trans rfl
theorem te_368_994 : (pT M_368).find? (fun e => e.1 == 994) = some (994, .iconst 1, 0, 0) := (sk_45 994 rfl).trans rfl
theorem te_368_995 : (pT M_368).find? (fun e => e.1 == 995) = some (995, .iadd, 0, 0) := (sk_45 995 rfl).trans rfl
theorem te_368_996 : (pT M_368).find? (fun e => e.1 == 996) = some (996, .iaload, 0, 0) := (sk_45 996 rfl).trans rfl
theorem te_368_997 : (pT M_368).find? (fun e => e.1 == 997) = some (997, .aload_n 3, 0, 0) := (sk_45 997 rfl).trans rfl
theorem te_368_998 : (pT M_368).find? (fun e => e.1 == 998) = some (998, .invokestatic 243, 135, 8) := (sk_45 998 rfl).trans rfl
theorem te_368_1001 : (pT M_368).find? (fun e => e.1 == 1001) = some (1001, .istore 5, 0, 0) := (sk_45 1001 rfl).trans rfl
theorem te_368_1003 : (pT M_368).find? (fun e => e.1 == 1003) = some (1003, .aload_n 2, 0, 0) := (sk_46 1003 rfl).trans rfl
theorem te_368_1004 : (pT M_368).find? (fun e => e.1 == 1004) = some (1004, .aload_n 0, 0, 0) := (sk_46 1004 rfl).trans rfl
theorem te_368_1005 : (pT M_368).find? (fun e => e.1 == 1005) = some (1005, .iload 4, 0, 0) := (sk_46 1005 rfl).trans rfl
theorem te_368_1007 : (pT M_368).find? (fun e => e.1 == 1007) = some (1007, .iconst 1, 0, 0) := (sk_46 1007 rfl).trans rfl
theorem te_368_1008 : (pT M_368).find? (fun e => e.1 == 1008) = some (1008, .iadd, 0, 0) := (sk_46 1008 rfl).trans rfl
theorem te_368_1009 : (pT M_368).find? (fun e => e.1 == 1009) = some (1009, .iaload, 0, 0) := (sk_46 1009 rfl).trans rfl
theorem te_368_1010 : (pT M_368).find? (fun e => e.1 == 1010) = some (1010, .invokevirtual 245, 292, 0) := (sk_46 1010 rfl).trans rfl
theorem te_368_1013 : (pT M_368).find? (fun e => e.1 == 1013) = some (1013, .istore 6, 0, 0) := (sk_46 1013 rfl).trans rfl
theorem te_368_1015 : (pT M_368).find? (fun e => e.1 == 1015) = some (1015, .goto 1312, 0, 0) := (sk_46 1015 rfl).trans rfl
theorem te_368_1018 : (pT M_368).find? (fun e => e.1 == 1018) = some (1018, .aload_n 1, 0, 0) := (sk_46 1018 rfl).trans rfl
theorem te_368_1019 : (pT M_368).find? (fun e => e.1 == 1019) = some (1019, .aload_n 3, 0, 0) := (sk_46 1019 rfl).trans rfl
theorem te_368_1020 : (pT M_368).find? (fun e => e.1 == 1020) = some (1020, .invokestatic 246, 137, 8) := (sk_46 1020 rfl).trans rfl
theorem te_368_1023 : (pT M_368).find? (fun e => e.1 == 1023) = some (1023, .istore 5, 0, 0) := (sk_47 1023 rfl).trans rfl
theorem te_368_1025 : (pT M_368).find? (fun e => e.1 == 1025) = some (1025, .aload_n 2, 0, 0) := (sk_47 1025 rfl).trans rfl
theorem te_368_1026 : (pT M_368).find? (fun e => e.1 == 1026) = some (1026, .invokevirtual 248, 293, 0) := (sk_47 1026 rfl).trans rfl
theorem te_368_1029 : (pT M_368).find? (fun e => e.1 == 1029) = some (1029, .istore 6, 0, 0) := (sk_47 1029 rfl).trans rfl
theorem te_368_1031 : (pT M_368).find? (fun e => e.1 == 1031) = some (1031, .goto 1296, 0, 0) := (sk_47 1031 rfl).trans rfl
theorem te_368_1034 : (pT M_368).find? (fun e => e.1 == 1034) = some (1034, .aload_n 1, 0, 0) := (sk_47 1034 rfl).trans rfl
theorem te_368_1035 : (pT M_368).find? (fun e => e.1 == 1035) = some (1035, .aload_n 0, 0, 0) := (sk_47 1035 rfl).trans rfl
theorem te_368_1036 : (pT M_368).find? (fun e => e.1 == 1036) = some (1036, .iload 4, 0, 0) := (sk_47 1036 rfl).trans rfl
theorem te_368_1038 : (pT M_368).find? (fun e => e.1 == 1038) = some (1038, .iconst 1, 0, 0) := (sk_47 1038 rfl).trans rfl
theorem te_368_1039 : (pT M_368).find? (fun e => e.1 == 1039) = some (1039, .iadd, 0, 0) := (sk_47 1039 rfl).trans rfl
theorem te_368_1040 : (pT M_368).find? (fun e => e.1 == 1040) = some (1040, .iaload, 0, 0) := (sk_47 1040 rfl).trans rfl
theorem te_368_1041 : (pT M_368).find? (fun e => e.1 == 1041) = some (1041, .aload_n 0, 0, 0) := (sk_47 1041 rfl).trans rfl
theorem te_368_1042 : (pT M_368).find? (fun e => e.1 == 1042) = some (1042, .iload 4, 0, 0) := (sk_48 1042 rfl).trans rfl
theorem te_368_1044 : (pT M_368).find? (fun e => e.1 == 1044) = some (1044, .iconst 2, 0, 0) := (sk_48 1044 rfl).trans rfl
theorem te_368_1045 : (pT M_368).find? (fun e => e.1 == 1045) = some (1045, .iadd, 0, 0) := (sk_48 1045 rfl).trans rfl
theorem te_368_1046 : (pT M_368).find? (fun e => e.1 == 1046) = some (1046, .iaload, 0, 0) := (sk_48 1046 rfl).trans rfl
theorem te_368_1047 : (pT M_368).find? (fun e => e.1 == 1047) = some (1047, .aload_n 3, 0, 0) := (sk_48 1047 rfl).trans rfl
theorem te_368_1048 : (pT M_368).find? (fun e => e.1 == 1048) = some (1048, .invokestatic 249, 139, 8) := (sk_48 1048 rfl).trans rfl
theorem te_368_1051 : (pT M_368).find? (fun e => e.1 == 1051) = some (1051, .istore 5, 0, 0) := (sk_48 1051 rfl).trans rfl
theorem te_368_1053 : (pT M_368).find? (fun e => e.1 == 1053) = some (1053, .aload_n 2, 0, 0) := (sk_48 1053 rfl).trans rfl
theorem te_368_1054 : (pT M_368).find? (fun e => e.1 == 1054) = some (1054, .aload_n 0, 0, 0) := (sk_48 1054 rfl).trans rfl
theorem te_368_1055 : (pT M_368).find? (fun e => e.1 == 1055) = some (1055, .iload 4, 0, 0) := (sk_48 1055 rfl).trans rfl
theorem te_368_1057 : (pT M_368).find? (fun e => e.1 == 1057) = some (1057, .iconst 1, 0, 0) := (sk_48 1057 rfl).trans rfl
theorem te_368_1058 : (pT M_368).find? (fun e => e.1 == 1058) = some (1058, .iadd, 0, 0) := (sk_48 1058 rfl).trans rfl
theorem te_368_1059 : (pT M_368).find? (fun e => e.1 == 1059) = some (1059, .iaload, 0, 0) := (sk_49 1059 rfl).trans rfl
theorem te_368_1060 : (pT M_368).find? (fun e => e.1 == 1060) = some (1060, .aload_n 0, 0, 0) := (sk_49 1060 rfl).trans rfl
theorem te_368_1061 : (pT M_368).find? (fun e => e.1 == 1061) = some (1061, .iload 4, 0, 0) := (sk_49 1061 rfl).trans rfl
theorem te_368_1063 : (pT M_368).find? (fun e => e.1 == 1063) = some (1063, .iconst 2, 0, 0) := (sk_49 1063 rfl).trans rfl
theorem te_368_1064 : (pT M_368).find? (fun e => e.1 == 1064) = some (1064, .iadd, 0, 0) := (sk_49 1064 rfl).trans rfl
theorem te_368_1065 : (pT M_368).find? (fun e => e.1 == 1065) = some (1065, .iaload, 0, 0) := (sk_49 1065 rfl).trans rfl
theorem te_368_1066 : (pT M_368).find? (fun e => e.1 == 1066) = some (1066, .invokevirtual 251, 294, 0) := (sk_49 1066 rfl).trans rfl
theorem te_368_1069 : (pT M_368).find? (fun e => e.1 == 1069) = some (1069, .istore 6, 0, 0) := (sk_49 1069 rfl).trans rfl
theorem te_368_1071 : (pT M_368).find? (fun e => e.1 == 1071) = some (1071, .goto 1256, 0, 0) := (sk_49 1071 rfl).trans rfl
theorem te_368_1074 : (pT M_368).find? (fun e => e.1 == 1074) = some (1074, .aload_n 1, 0, 0) := (sk_49 1074 rfl).trans rfl
theorem te_368_1075 : (pT M_368).find? (fun e => e.1 == 1075) = some (1075, .aload_n 0, 0, 0) := (sk_49 1075 rfl).trans rfl
theorem te_368_1076 : (pT M_368).find? (fun e => e.1 == 1076) = some (1076, .iload 4, 0, 0) := (sk_49 1076 rfl).trans rfl
theorem te_368_1078 : (pT M_368).find? (fun e => e.1 == 1078) = some (1078, .iconst 1, 0, 0) := (sk_50 1078 rfl).trans rfl
theorem te_368_1079 : (pT M_368).find? (fun e => e.1 == 1079) = some (1079, .iadd, 0, 0) := (sk_50 1079 rfl).trans rfl
theorem te_368_1080 : (pT M_368).find? (fun e => e.1 == 1080) = some (1080, .iaload, 0, 0) := (sk_50 1080 rfl).trans rfl
theorem te_368_1081 : (pT M_368).find? (fun e => e.1 == 1081) = some (1081, .aload_n 0, 0, 0) := (sk_50 1081 rfl).trans rfl
theorem te_368_1082 : (pT M_368).find? (fun e => e.1 == 1082) = some (1082, .iload 4, 0, 0) := (sk_50 1082 rfl).trans rfl
theorem te_368_1084 : (pT M_368).find? (fun e => e.1 == 1084) = some (1084, .iconst 2, 0, 0) := (sk_50 1084 rfl).trans rfl
theorem te_368_1085 : (pT M_368).find? (fun e => e.1 == 1085) = some (1085, .iadd, 0, 0) := (sk_50 1085 rfl).trans rfl
theorem te_368_1086 : (pT M_368).find? (fun e => e.1 == 1086) = some (1086, .iaload, 0, 0) := (sk_50 1086 rfl).trans rfl
theorem te_368_1087 : (pT M_368).find? (fun e => e.1 == 1087) = some (1087, .aload_n 0, 0, 0) := (sk_50 1087 rfl).trans rfl
theorem te_368_1088 : (pT M_368).find? (fun e => e.1 == 1088) = some (1088, .iload 4, 0, 0) := (sk_50 1088 rfl).trans rfl
theorem te_368_1090 : (pT M_368).find? (fun e => e.1 == 1090) = some (1090, .iconst 3, 0, 0) := (sk_50 1090 rfl).trans rfl
theorem te_368_1091 : (pT M_368).find? (fun e => e.1 == 1091) = some (1091, .iadd, 0, 0) := (sk_50 1091 rfl).trans rfl
theorem te_368_1092 : (pT M_368).find? (fun e => e.1 == 1092) = some (1092, .iaload, 0, 0) := (sk_51 1092 rfl).trans rfl
theorem te_368_1093 : (pT M_368).find? (fun e => e.1 == 1093) = some (1093, .aload_n 3, 0, 0) := (sk_51 1093 rfl).trans rfl
theorem te_368_1094 : (pT M_368).find? (fun e => e.1 == 1094) = some (1094, .invokestatic 252, 144, 8) := (sk_51 1094 rfl).trans rfl
theorem te_368_1097 : (pT M_368).find? (fun e => e.1 == 1097) = some (1097, .istore 5, 0, 0) := (sk_51 1097 rfl).trans rfl
theorem te_368_1099 : (pT M_368).find? (fun e => e.1 == 1099) = some (1099, .aload_n 2, 0, 0) := (sk_51 1099 rfl).trans rfl
theorem te_368_1100 : (pT M_368).find? (fun e => e.1 == 1100) = some (1100, .aload_n 0, 0, 0) := (sk_51 1100 rfl).trans rfl
theorem te_368_1101 : (pT M_368).find? (fun e => e.1 == 1101) = some (1101, .iload 4, 0, 0) := (sk_51 1101 rfl).trans rfl
theorem te_368_1103 : (pT M_368).find? (fun e => e.1 == 1103) = some (1103, .iconst 1, 0, 0) := (sk_51 1103 rfl).trans rfl
theorem te_368_1104 : (pT M_368).find? (fun e => e.1 == 1104) = some (1104, .iadd, 0, 0) := (sk_51 1104 rfl).trans rfl
theorem te_368_1105 : (pT M_368).find? (fun e => e.1 == 1105) = some (1105, .iaload, 0, 0) := (sk_51 1105 rfl).trans rfl
theorem te_368_1106 : (pT M_368).find? (fun e => e.1 == 1106) = some (1106, .aload_n 0, 0, 0) := (sk_51 1106 rfl).trans rfl
theorem te_368_1107 : (pT M_368).find? (fun e => e.1 == 1107) = some (1107, .iload 4, 0, 0) := (sk_51 1107 rfl).trans rfl
theorem te_368_1109 : (pT M_368).find? (fun e => e.1 == 1109) = some (1109, .iconst 2, 0, 0) := (sk_52 1109 rfl).trans rfl
theorem te_368_1110 : (pT M_368).find? (fun e => e.1 == 1110) = some (1110, .iadd, 0, 0) := (sk_52 1110 rfl).trans rfl
theorem te_368_1111 : (pT M_368).find? (fun e => e.1 == 1111) = some (1111, .iaload, 0, 0) := (sk_52 1111 rfl).trans rfl
theorem te_368_1112 : (pT M_368).find? (fun e => e.1 == 1112) = some (1112, .aload_n 0, 0, 0) := (sk_52 1112 rfl).trans rfl
theorem te_368_1113 : (pT M_368).find? (fun e => e.1 == 1113) = some (1113, .iload 4, 0, 0) := (sk_52 1113 rfl).trans rfl
theorem te_368_1115 : (pT M_368).find? (fun e => e.1 == 1115) = some (1115, .iconst 3, 0, 0) := (sk_52 1115 rfl).trans rfl
theorem te_368_1116 : (pT M_368).find? (fun e => e.1 == 1116) = some (1116, .iadd, 0, 0) := (sk_52 1116 rfl).trans rfl
theorem te_368_1117 : (pT M_368).find? (fun e => e.1 == 1117) = some (1117, .iaload, 0, 0) := (sk_52 1117 rfl).trans rfl
theorem te_368_1118 : (pT M_368).find? (fun e => e.1 == 1118) = some (1118, .invokevirtual 254, 305, 0) := (sk_52 1118 rfl).trans rfl
theorem te_368_1121 : (pT M_368).find? (fun e => e.1 == 1121) = some (1121, .istore 6, 0, 0) := (sk_52 1121 rfl).trans rfl
theorem te_368_1123 : (pT M_368).find? (fun e => e.1 == 1123) = some (1123, .goto 1204, 0, 0) := (sk_52 1123 rfl).trans rfl
theorem te_368_1126 : (pT M_368).find? (fun e => e.1 == 1126) = some (1126, .aload_n 1, 0, 0) := (sk_52 1126 rfl).trans rfl
theorem te_368_1127 : (pT M_368).find? (fun e => e.1 == 1127) = some (1127, .aload_n 0, 0, 0) := (sk_53 1127 rfl).trans rfl
theorem te_368_1128 : (pT M_368).find? (fun e => e.1 == 1128) = some (1128, .iload 4, 0, 0) := (sk_53 1128 rfl).trans rfl
theorem te_368_1130 : (pT M_368).find? (fun e => e.1 == 1130) = some (1130, .iconst 1, 0, 0) := (sk_53 1130 rfl).trans rfl
theorem te_368_1131 : (pT M_368).find? (fun e => e.1 == 1131) = some (1131, .iadd, 0, 0) := (sk_53 1131 rfl).trans rfl
theorem te_368_1132 : (pT M_368).find? (fun e => e.1 == 1132) = some (1132, .iaload, 0, 0) := (sk_53 1132 rfl).trans rfl
theorem te_368_1133 : (pT M_368).find? (fun e => e.1 == 1133) = some (1133, .aload_n 0, 0, 0) := (sk_53 1133 rfl).trans rfl
theorem te_368_1134 : (pT M_368).find? (fun e => e.1 == 1134) = some (1134, .iload 4, 0, 0) := (sk_53 1134 rfl).trans rfl
theorem te_368_1136 : (pT M_368).find? (fun e => e.1 == 1136) = some (1136, .iconst 2, 0, 0) := (sk_53 1136 rfl).trans rfl
theorem te_368_1137 : (pT M_368).find? (fun e => e.1 == 1137) = some (1137, .iadd, 0, 0) := (sk_53 1137 rfl).trans rfl
theorem te_368_1138 : (pT M_368).find? (fun e => e.1 == 1138) = some (1138, .iaload, 0, 0) := (sk_53 1138 rfl).trans rfl
theorem te_368_1139 : (pT M_368).find? (fun e => e.1 == 1139) = some (1139, .aload_n 3, 0, 0) := (sk_53 1139 rfl).trans rfl
theorem te_368_1140 : (pT M_368).find? (fun e => e.1 == 1140) = some (1140, .invokestatic 255, 147, 8) := (sk_53 1140 rfl).trans rfl
theorem te_368_1143 : (pT M_368).find? (fun e => e.1 == 1143) = some (1143, .istore 5, 0, 0) := (sk_54 1143 rfl).trans rfl
theorem te_368_1145 : (pT M_368).find? (fun e => e.1 == 1145) = some (1145, .aload_n 2, 0, 0) := (sk_54 1145 rfl).trans rfl
theorem te_368_1146 : (pT M_368).find? (fun e => e.1 == 1146) = some (1146, .aload_n 0, 0, 0) := (sk_54 1146 rfl).trans rfl
theorem te_368_1147 : (pT M_368).find? (fun e => e.1 == 1147) = some (1147, .iload 4, 0, 0) := (sk_54 1147 rfl).trans rfl
theorem te_368_1149 : (pT M_368).find? (fun e => e.1 == 1149) = some (1149, .iconst 1, 0, 0) := (sk_54 1149 rfl).trans rfl
theorem te_368_1150 : (pT M_368).find? (fun e => e.1 == 1150) = some (1150, .iadd, 0, 0) := (sk_54 1150 rfl).trans rfl
theorem te_368_1151 : (pT M_368).find? (fun e => e.1 == 1151) = some (1151, .iaload, 0, 0) := (sk_54 1151 rfl).trans rfl
theorem te_368_1152 : (pT M_368).find? (fun e => e.1 == 1152) = some (1152, .aload_n 0, 0, 0) := (sk_54 1152 rfl).trans rfl
theorem te_368_1153 : (pT M_368).find? (fun e => e.1 == 1153) = some (1153, .iload 4, 0, 0) := (sk_54 1153 rfl).trans rfl
theorem te_368_1155 : (pT M_368).find? (fun e => e.1 == 1155) = some (1155, .iconst 2, 0, 0) := (sk_54 1155 rfl).trans rfl
theorem te_368_1156 : (pT M_368).find? (fun e => e.1 == 1156) = some (1156, .iadd, 0, 0) := (sk_54 1156 rfl).trans rfl
theorem te_368_1157 : (pT M_368).find? (fun e => e.1 == 1157) = some (1157, .iaload, 0, 0) := (sk_54 1157 rfl).trans rfl
theorem te_368_1158 : (pT M_368).find? (fun e => e.1 == 1158) = some (1158, .invokevirtual 257, 307, 0) := (sk_55 1158 rfl).trans rfl
theorem te_368_1161 : (pT M_368).find? (fun e => e.1 == 1161) = some (1161, .istore 6, 0, 0) := (sk_55 1161 rfl).trans rfl
theorem te_368_1163 : (pT M_368).find? (fun e => e.1 == 1163) = some (1163, .goto 1164, 0, 0) := (sk_55 1163 rfl).trans rfl
theorem te_368_1166 : (pT M_368).find? (fun e => e.1 == 1166) = some (1166, .aload_n 1, 0, 0) := (sk_55 1166 rfl).trans rfl
theorem te_368_1167 : (pT M_368).find? (fun e => e.1 == 1167) = some (1167, .aload_n 0, 0, 0) := (sk_55 1167 rfl).trans rfl
theorem te_368_1168 : (pT M_368).find? (fun e => e.1 == 1168) = some (1168, .iload 4, 0, 0) := (sk_55 1168 rfl).trans rfl
theorem te_368_1170 : (pT M_368).find? (fun e => e.1 == 1170) = some (1170, .iconst 1, 0, 0) := (sk_55 1170 rfl).trans rfl
theorem te_368_1171 : (pT M_368).find? (fun e => e.1 == 1171) = some (1171, .iadd, 0, 0) := (sk_55 1171 rfl).trans rfl
theorem te_368_1172 : (pT M_368).find? (fun e => e.1 == 1172) = some (1172, .iaload, 0, 0) := (sk_55 1172 rfl).trans rfl
theorem te_368_1173 : (pT M_368).find? (fun e => e.1 == 1173) = some (1173, .aload_n 0, 0, 0) := (sk_55 1173 rfl).trans rfl
theorem te_368_1174 : (pT M_368).find? (fun e => e.1 == 1174) = some (1174, .iload 4, 0, 0) := (sk_55 1174 rfl).trans rfl
theorem te_368_1176 : (pT M_368).find? (fun e => e.1 == 1176) = some (1176, .iconst 2, 0, 0) := (sk_55 1176 rfl).trans rfl
theorem te_368_1177 : (pT M_368).find? (fun e => e.1 == 1177) = some (1177, .iadd, 0, 0) := (sk_56 1177 rfl).trans rfl
theorem te_368_1178 : (pT M_368).find? (fun e => e.1 == 1178) = some (1178, .iaload, 0, 0) := (sk_56 1178 rfl).trans rfl
theorem te_368_1179 : (pT M_368).find? (fun e => e.1 == 1179) = some (1179, .aload_n 0, 0, 0) := (sk_56 1179 rfl).trans rfl
theorem te_368_1180 : (pT M_368).find? (fun e => e.1 == 1180) = some (1180, .iload 4, 0, 0) := (sk_56 1180 rfl).trans rfl
theorem te_368_1182 : (pT M_368).find? (fun e => e.1 == 1182) = some (1182, .iconst 3, 0, 0) := (sk_56 1182 rfl).trans rfl
theorem te_368_1183 : (pT M_368).find? (fun e => e.1 == 1183) = some (1183, .iadd, 0, 0) := (sk_56 1183 rfl).trans rfl
theorem te_368_1184 : (pT M_368).find? (fun e => e.1 == 1184) = some (1184, .iaload, 0, 0) := (sk_56 1184 rfl).trans rfl
theorem te_368_1185 : (pT M_368).find? (fun e => e.1 == 1185) = some (1185, .aload_n 0, 0, 0) := (sk_56 1185 rfl).trans rfl
theorem te_368_1186 : (pT M_368).find? (fun e => e.1 == 1186) = some (1186, .iload 4, 0, 0) := (sk_56 1186 rfl).trans rfl
theorem te_368_1188 : (pT M_368).find? (fun e => e.1 == 1188) = some (1188, .iconst 4, 0, 0) := (sk_56 1188 rfl).trans rfl
theorem te_368_1189 : (pT M_368).find? (fun e => e.1 == 1189) = some (1189, .iadd, 0, 0) := (sk_56 1189 rfl).trans rfl
theorem te_368_1190 : (pT M_368).find? (fun e => e.1 == 1190) = some (1190, .iaload, 0, 0) := (sk_56 1190 rfl).trans rfl
theorem te_368_1191 : (pT M_368).find? (fun e => e.1 == 1191) = some (1191, .aload_n 3, 0, 0) := (sk_57 1191 rfl).trans rfl
theorem te_368_1192 : (pT M_368).find? (fun e => e.1 == 1192) = some (1192, .invokestatic 258, 149, 8) := (sk_57 1192 rfl).trans rfl
theorem te_368_1195 : (pT M_368).find? (fun e => e.1 == 1195) = some (1195, .istore 5, 0, 0) := (sk_57 1195 rfl).trans rfl
theorem te_368_1197 : (pT M_368).find? (fun e => e.1 == 1197) = some (1197, .aload_n 2, 0, 0) := (sk_57 1197 rfl).trans rfl
theorem te_368_1198 : (pT M_368).find? (fun e => e.1 == 1198) = some (1198, .aload_n 0, 0, 0) := (sk_57 1198 rfl).trans rfl
theorem te_368_1199 : (pT M_368).find? (fun e => e.1 == 1199) = some (1199, .iload 4, 0, 0) := (sk_57 1199 rfl).trans rfl
theorem te_368_1201 : (pT M_368).find? (fun e => e.1 == 1201) = some (1201, .iconst 1, 0, 0) := (sk_57 1201 rfl).trans rfl
theorem te_368_1202 : (pT M_368).find? (fun e => e.1 == 1202) = some (1202, .iadd, 0, 0) := (sk_57 1202 rfl).trans rfl
theorem te_368_1203 : (pT M_368).find? (fun e => e.1 == 1203) = some (1203, .iaload, 0, 0) := (sk_57 1203 rfl).trans rfl
theorem te_368_1204 : (pT M_368).find? (fun e => e.1 == 1204) = some (1204, .aload_n 0, 0, 0) := (sk_57 1204 rfl).trans rfl
theorem te_368_1205 : (pT M_368).find? (fun e => e.1 == 1205) = some (1205, .iload 4, 0, 0) := (sk_57 1205 rfl).trans rfl
theorem te_368_1207 : (pT M_368).find? (fun e => e.1 == 1207) = some (1207, .iconst 2, 0, 0) := (sk_57 1207 rfl).trans rfl
theorem te_368_1208 : (pT M_368).find? (fun e => e.1 == 1208) = some (1208, .iadd, 0, 0) := (sk_58 1208 rfl).trans rfl
theorem te_368_1209 : (pT M_368).find? (fun e => e.1 == 1209) = some (1209, .iaload, 0, 0) := (sk_58 1209 rfl).trans rfl
theorem te_368_1210 : (pT M_368).find? (fun e => e.1 == 1210) = some (1210, .aload_n 0, 0, 0) := (sk_58 1210 rfl).trans rfl
theorem te_368_1211 : (pT M_368).find? (fun e => e.1 == 1211) = some (1211, .iload 4, 0, 0) := (sk_58 1211 rfl).trans rfl
theorem te_368_1213 : (pT M_368).find? (fun e => e.1 == 1213) = some (1213, .iconst 3, 0, 0) := (sk_58 1213 rfl).trans rfl
theorem te_368_1214 : (pT M_368).find? (fun e => e.1 == 1214) = some (1214, .iadd, 0, 0) := (sk_58 1214 rfl).trans rfl
theorem te_368_1215 : (pT M_368).find? (fun e => e.1 == 1215) = some (1215, .iaload, 0, 0) := (sk_58 1215 rfl).trans rfl
theorem te_368_1216 : (pT M_368).find? (fun e => e.1 == 1216) = some (1216, .aload_n 0, 0, 0) := (sk_58 1216 rfl).trans rfl
theorem te_368_1217 : (pT M_368).find? (fun e => e.1 == 1217) = some (1217, .iload 4, 0, 0) := (sk_58 1217 rfl).trans rfl
theorem te_368_1219 : (pT M_368).find? (fun e => e.1 == 1219) = some (1219, .iconst 4, 0, 0) := (sk_58 1219 rfl).trans rfl
theorem te_368_1220 : (pT M_368).find? (fun e => e.1 == 1220) = some (1220, .iadd, 0, 0) := (sk_58 1220 rfl).trans rfl
theorem te_368_1221 : (pT M_368).find? (fun e => e.1 == 1221) = some (1221, .iaload, 0, 0) := (sk_58 1221 rfl).trans rfl
theorem te_368_1222 : (pT M_368).find? (fun e => e.1 == 1222) = some (1222, .invokevirtual 260, 308, 0) := (sk_59 1222 rfl).trans rfl
theorem te_368_1225 : (pT M_368).find? (fun e => e.1 == 1225) = some (1225, .istore 6, 0, 0) := (sk_59 1225 rfl).trans rfl
theorem te_368_1227 : (pT M_368).find? (fun e => e.1 == 1227) = some (1227, .goto 1100, 0, 0) := (sk_59 1227 rfl).trans rfl
theorem te_368_1230 : (pT M_368).find? (fun e => e.1 == 1230) = some (1230, .aload_n 1, 0, 0) := (sk_59 1230 rfl).trans rfl
theorem te_368_1231 : (pT M_368).find? (fun e => e.1 == 1231) = some (1231, .aload_n 0, 0, 0) := (sk_59 1231 rfl).trans rfl
theorem te_368_1232 : (pT M_368).find? (fun e => e.1 == 1232) = some (1232, .iload 4, 0, 0) := (sk_59 1232 rfl).trans rfl
theorem te_368_1234 : (pT M_368).find? (fun e => e.1 == 1234) = some (1234, .iconst 1, 0, 0) := (sk_59 1234 rfl).trans rfl
theorem te_368_1235 : (pT M_368).find? (fun e => e.1 == 1235) = some (1235, .iadd, 0, 0) := (sk_59 1235 rfl).trans rfl
theorem te_368_1236 : (pT M_368).find? (fun e => e.1 == 1236) = some (1236, .iaload, 0, 0) := (sk_59 1236 rfl).trans rfl
theorem te_368_1237 : (pT M_368).find? (fun e => e.1 == 1237) = some (1237, .aload_n 0, 0, 0) := (sk_59 1237 rfl).trans rfl
theorem te_368_1238 : (pT M_368).find? (fun e => e.1 == 1238) = some (1238, .iload 4, 0, 0) := (sk_59 1238 rfl).trans rfl
theorem te_368_1240 : (pT M_368).find? (fun e => e.1 == 1240) = some (1240, .iconst 2, 0, 0) := (sk_59 1240 rfl).trans rfl
theorem te_368_1241 : (pT M_368).find? (fun e => e.1 == 1241) = some (1241, .iadd, 0, 0) := (sk_60 1241 rfl).trans rfl
theorem te_368_1242 : (pT M_368).find? (fun e => e.1 == 1242) = some (1242, .iaload, 0, 0) := (sk_60 1242 rfl).trans rfl
theorem te_368_1243 : (pT M_368).find? (fun e => e.1 == 1243) = some (1243, .aload_n 0, 0, 0) := (sk_60 1243 rfl).trans rfl
theorem te_368_1244 : (pT M_368).find? (fun e => e.1 == 1244) = some (1244, .iload 4, 0, 0) := (sk_60 1244 rfl).trans rfl
theorem te_368_1246 : (pT M_368).find? (fun e => e.1 == 1246) = some (1246, .iconst 3, 0, 0) := (sk_60 1246 rfl).trans rfl
theorem te_368_1247 : (pT M_368).find? (fun e => e.1 == 1247) = some (1247, .iadd, 0, 0) := (sk_60 1247 rfl).trans rfl
theorem te_368_1248 : (pT M_368).find? (fun e => e.1 == 1248) = some (1248, .iaload, 0, 0) := (sk_60 1248 rfl).trans rfl
theorem te_368_1249 : (pT M_368).find? (fun e => e.1 == 1249) = some (1249, .aload_n 3, 0, 0) := (sk_60 1249 rfl).trans rfl
theorem te_368_1250 : (pT M_368).find? (fun e => e.1 == 1250) = some (1250, .invokestatic 261, 153, 8) := (sk_60 1250 rfl).trans rfl
theorem te_368_1253 : (pT M_368).find? (fun e => e.1 == 1253) = some (1253, .istore 5, 0, 0) := (sk_60 1253 rfl).trans rfl
theorem te_368_1255 : (pT M_368).find? (fun e => e.1 == 1255) = some (1255, .aload_n 2, 0, 0) := (sk_60 1255 rfl).trans rfl
theorem te_368_1256 : (pT M_368).find? (fun e => e.1 == 1256) = some (1256, .aload_n 0, 0, 0) := (sk_60 1256 rfl).trans rfl
theorem te_368_1257 : (pT M_368).find? (fun e => e.1 == 1257) = some (1257, .iload 4, 0, 0) := (sk_61 1257 rfl).trans rfl
theorem te_368_1259 : (pT M_368).find? (fun e => e.1 == 1259) = some (1259, .iconst 1, 0, 0) := (sk_61 1259 rfl).trans rfl
theorem te_368_1260 : (pT M_368).find? (fun e => e.1 == 1260) = some (1260, .iadd, 0, 0) := (sk_61 1260 rfl).trans rfl
theorem te_368_1261 : (pT M_368).find? (fun e => e.1 == 1261) = some (1261, .iaload, 0, 0) := (sk_61 1261 rfl).trans rfl
theorem te_368_1262 : (pT M_368).find? (fun e => e.1 == 1262) = some (1262, .aload_n 0, 0, 0) := (sk_61 1262 rfl).trans rfl
theorem te_368_1263 : (pT M_368).find? (fun e => e.1 == 1263) = some (1263, .iload 4, 0, 0) := (sk_61 1263 rfl).trans rfl
theorem te_368_1265 : (pT M_368).find? (fun e => e.1 == 1265) = some (1265, .iconst 2, 0, 0) := (sk_61 1265 rfl).trans rfl
theorem te_368_1266 : (pT M_368).find? (fun e => e.1 == 1266) = some (1266, .iadd, 0, 0) := (sk_61 1266 rfl).trans rfl
theorem te_368_1267 : (pT M_368).find? (fun e => e.1 == 1267) = some (1267, .iaload, 0, 0) := (sk_61 1267 rfl).trans rfl
theorem te_368_1268 : (pT M_368).find? (fun e => e.1 == 1268) = some (1268, .aload_n 0, 0, 0) := (sk_61 1268 rfl).trans rfl
theorem te_368_1269 : (pT M_368).find? (fun e => e.1 == 1269) = some (1269, .iload 4, 0, 0) := (sk_61 1269 rfl).trans rfl
theorem te_368_1271 : (pT M_368).find? (fun e => e.1 == 1271) = some (1271, .iconst 3, 0, 0) := (sk_61 1271 rfl).trans rfl
theorem te_368_1272 : (pT M_368).find? (fun e => e.1 == 1272) = some (1272, .iadd, 0, 0) := (sk_62 1272 rfl).trans rfl
theorem te_368_1273 : (pT M_368).find? (fun e => e.1 == 1273) = some (1273, .iaload, 0, 0) := (sk_62 1273 rfl).trans rfl
theorem te_368_1274 : (pT M_368).find? (fun e => e.1 == 1274) = some (1274, .invokevirtual 263, 310, 0) := (sk_62 1274 rfl).trans rfl
theorem te_368_1277 : (pT M_368).find? (fun e => e.1 == 1277) = some (1277, .istore 6, 0, 0) := (sk_62 1277 rfl).trans rfl
theorem te_368_1279 : (pT M_368).find? (fun e => e.1 == 1279) = some (1279, .goto 1048, 0, 0) := (sk_62 1279 rfl).trans rfl
theorem te_368_1282 : (pT M_368).find? (fun e => e.1 == 1282) = some (1282, .aload_n 1, 0, 0) := (sk_62 1282 rfl).trans rfl
theorem te_368_1283 : (pT M_368).find? (fun e => e.1 == 1283) = some (1283, .aload_n 0, 0, 0) := (sk_62 1283 rfl).trans rfl
theorem te_368_1284 : (pT M_368).find? (fun e => e.1 == 1284) = some (1284, .iload 4, 0, 0) := (sk_62 1284 rfl).trans rfl
theorem te_368_1286 : (pT M_368).find? (fun e => e.1 == 1286) = some (1286, .iconst 1, 0, 0) := (sk_62 1286 rfl).trans rfl
theorem te_368_1287 : (pT M_368).find? (fun e => e.1 == 1287) = some (1287, .iadd, 0, 0) := (sk_62 1287 rfl).trans rfl
theorem te_368_1288 : (pT M_368).find? (fun e => e.1 == 1288) = some (1288, .iaload, 0, 0) := (sk_62 1288 rfl).trans rfl
theorem te_368_1289 : (pT M_368).find? (fun e => e.1 == 1289) = some (1289, .aload_n 0, 0, 0) := (sk_62 1289 rfl).trans rfl
theorem te_368_1290 : (pT M_368).find? (fun e => e.1 == 1290) = some (1290, .iload 4, 0, 0) := (sk_63 1290 rfl).trans rfl
theorem te_368_1292 : (pT M_368).find? (fun e => e.1 == 1292) = some (1292, .iconst 2, 0, 0) := (sk_63 1292 rfl).trans rfl
theorem te_368_1293 : (pT M_368).find? (fun e => e.1 == 1293) = some (1293, .iadd, 0, 0) := (sk_63 1293 rfl).trans rfl
theorem te_368_1294 : (pT M_368).find? (fun e => e.1 == 1294) = some (1294, .iaload, 0, 0) := (sk_63 1294 rfl).trans rfl
theorem te_368_1295 : (pT M_368).find? (fun e => e.1 == 1295) = some (1295, .aload_n 0, 0, 0) := (sk_63 1295 rfl).trans rfl
theorem te_368_1296 : (pT M_368).find? (fun e => e.1 == 1296) = some (1296, .iload 4, 0, 0) := (sk_63 1296 rfl).trans rfl
theorem te_368_1298 : (pT M_368).find? (fun e => e.1 == 1298) = some (1298, .iconst 3, 0, 0) := (sk_63 1298 rfl).trans rfl
theorem te_368_1299 : (pT M_368).find? (fun e => e.1 == 1299) = some (1299, .iadd, 0, 0) := (sk_63 1299 rfl).trans rfl
theorem te_368_1300 : (pT M_368).find? (fun e => e.1 == 1300) = some (1300, .iaload, 0, 0) := (sk_63 1300 rfl).trans rfl
theorem te_368_1301 : (pT M_368).find? (fun e => e.1 == 1301) = some (1301, .aload_n 0, 0, 0) := (sk_63 1301 rfl).trans rfl
theorem te_368_1302 : (pT M_368).find? (fun e => e.1 == 1302) = some (1302, .iload 4, 0, 0) := (sk_63 1302 rfl).trans rfl
theorem te_368_1304 : (pT M_368).find? (fun e => e.1 == 1304) = some (1304, .iconst 4, 0, 0) := (sk_63 1304 rfl).trans rfl
theorem te_368_1305 : (pT M_368).find? (fun e => e.1 == 1305) = some (1305, .iadd, 0, 0) := (sk_64 1305 rfl).trans rfl
theorem te_368_1306 : (pT M_368).find? (fun e => e.1 == 1306) = some (1306, .iaload, 0, 0) := (sk_64 1306 rfl).trans rfl
theorem te_368_1307 : (pT M_368).find? (fun e => e.1 == 1307) = some (1307, .aload_n 3, 0, 0) := (sk_64 1307 rfl).trans rfl
theorem te_368_1308 : (pT M_368).find? (fun e => e.1 == 1308) = some (1308, .invokestatic 264, 158, 8) := (sk_64 1308 rfl).trans rfl
theorem te_368_1311 : (pT M_368).find? (fun e => e.1 == 1311) = some (1311, .istore 5, 0, 0) := (sk_64 1311 rfl).trans rfl
theorem te_368_1313 : (pT M_368).find? (fun e => e.1 == 1313) = some (1313, .aload_n 2, 0, 0) := (sk_64 1313 rfl).trans rfl
theorem te_368_1314 : (pT M_368).find? (fun e => e.1 == 1314) = some (1314, .aload_n 0, 0, 0) := (sk_64 1314 rfl).trans rfl
theorem te_368_1315 : (pT M_368).find? (fun e => e.1 == 1315) = some (1315, .iload 4, 0, 0) := (sk_64 1315 rfl).trans rfl
theorem te_368_1317 : (pT M_368).find? (fun e => e.1 == 1317) = some (1317, .iconst 1, 0, 0) := (sk_64 1317 rfl).trans rfl
theorem te_368_1318 : (pT M_368).find? (fun e => e.1 == 1318) = some (1318, .iadd, 0, 0) := (sk_64 1318 rfl).trans rfl
theorem te_368_1319 : (pT M_368).find? (fun e => e.1 == 1319) = some (1319, .iaload, 0, 0) := (sk_64 1319 rfl).trans rfl
theorem te_368_1320 : (pT M_368).find? (fun e => e.1 == 1320) = some (1320, .aload_n 0, 0, 0) := (sk_64 1320 rfl).trans rfl
theorem te_368_1321 : (pT M_368).find? (fun e => e.1 == 1321) = some (1321, .iload 4, 0, 0) := (sk_65 1321 rfl).trans rfl
theorem te_368_1323 : (pT M_368).find? (fun e => e.1 == 1323) = some (1323, .iconst 2, 0, 0) := (sk_65 1323 rfl).trans rfl
theorem te_368_1324 : (pT M_368).find? (fun e => e.1 == 1324) = some (1324, .iadd, 0, 0) := (sk_65 1324 rfl).trans rfl
theorem te_368_1325 : (pT M_368).find? (fun e => e.1 == 1325) = some (1325, .iaload, 0, 0) := (sk_65 1325 rfl).trans rfl
theorem te_368_1326 : (pT M_368).find? (fun e => e.1 == 1326) = some (1326, .aload_n 0, 0, 0) := (sk_65 1326 rfl).trans rfl
theorem te_368_1327 : (pT M_368).find? (fun e => e.1 == 1327) = some (1327, .iload 4, 0, 0) := (sk_65 1327 rfl).trans rfl
theorem te_368_1329 : (pT M_368).find? (fun e => e.1 == 1329) = some (1329, .iconst 3, 0, 0) := (sk_65 1329 rfl).trans rfl
theorem te_368_1330 : (pT M_368).find? (fun e => e.1 == 1330) = some (1330, .iadd, 0, 0) := (sk_65 1330 rfl).trans rfl
theorem te_368_1331 : (pT M_368).find? (fun e => e.1 == 1331) = some (1331, .iaload, 0, 0) := (sk_65 1331 rfl).trans rfl
theorem te_368_1332 : (pT M_368).find? (fun e => e.1 == 1332) = some (1332, .aload_n 0, 0, 0) := (sk_65 1332 rfl).trans rfl
theorem te_368_1333 : (pT M_368).find? (fun e => e.1 == 1333) = some (1333, .iload 4, 0, 0) := (sk_65 1333 rfl).trans rfl
theorem te_368_1335 : (pT M_368).find? (fun e => e.1 == 1335) = some (1335, .iconst 4, 0, 0) := (sk_65 1335 rfl).trans rfl
theorem te_368_1336 : (pT M_368).find? (fun e => e.1 == 1336) = some (1336, .iadd, 0, 0) := (sk_66 1336 rfl).trans rfl
theorem te_368_1337 : (pT M_368).find? (fun e => e.1 == 1337) = some (1337, .iaload, 0, 0) := (sk_66 1337 rfl).trans rfl
theorem te_368_1338 : (pT M_368).find? (fun e => e.1 == 1338) = some (1338, .invokevirtual 266, 315, 0) := (sk_66 1338 rfl).trans rfl
theorem te_368_1341 : (pT M_368).find? (fun e => e.1 == 1341) = some (1341, .istore 6, 0, 0) := (sk_66 1341 rfl).trans rfl
theorem te_368_1343 : (pT M_368).find? (fun e => e.1 == 1343) = some (1343, .goto 984, 0, 0) := (sk_66 1343 rfl).trans rfl
theorem te_368_1346 : (pT M_368).find? (fun e => e.1 == 1346) = some (1346, .aload_n 1, 0, 0) := (sk_66 1346 rfl).trans rfl
theorem te_368_1347 : (pT M_368).find? (fun e => e.1 == 1347) = some (1347, .aload_n 0, 0, 0) := (sk_66 1347 rfl).trans rfl
theorem te_368_1348 : (pT M_368).find? (fun e => e.1 == 1348) = some (1348, .iload 4, 0, 0) := (sk_66 1348 rfl).trans rfl
theorem te_368_1350 : (pT M_368).find? (fun e => e.1 == 1350) = some (1350, .iconst 1, 0, 0) := (sk_66 1350 rfl).trans rfl
theorem te_368_1351 : (pT M_368).find? (fun e => e.1 == 1351) = some (1351, .iadd, 0, 0) := (sk_66 1351 rfl).trans rfl
theorem te_368_1352 : (pT M_368).find? (fun e => e.1 == 1352) = some (1352, .iaload, 0, 0) := (sk_66 1352 rfl).trans rfl
theorem te_368_1353 : (pT M_368).find? (fun e => e.1 == 1353) = some (1353, .aload_n 0, 0, 0) := (sk_66 1353 rfl).trans rfl
theorem te_368_1354 : (pT M_368).find? (fun e => e.1 == 1354) = some (1354, .iload 4, 0, 0) := (sk_67 1354 rfl).trans rfl
theorem te_368_1356 : (pT M_368).find? (fun e => e.1 == 1356) = some (1356, .iconst 2, 0, 0) := (sk_67 1356 rfl).trans rfl
theorem te_368_1357 : (pT M_368).find? (fun e => e.1 == 1357) = some (1357, .iadd, 0, 0) := (sk_67 1357 rfl).trans rfl
theorem te_368_1358 : (pT M_368).find? (fun e => e.1 == 1358) = some (1358, .iaload, 0, 0) := (sk_67 1358 rfl).trans rfl
theorem te_368_1359 : (pT M_368).find? (fun e => e.1 == 1359) = some (1359, .aload_n 0, 0, 0) := (sk_67 1359 rfl).trans rfl
theorem te_368_1360 : (pT M_368).find? (fun e => e.1 == 1360) = some (1360, .iload 4, 0, 0) := (sk_67 1360 rfl).trans rfl
theorem te_368_1362 : (pT M_368).find? (fun e => e.1 == 1362) = some (1362, .iconst 3, 0, 0) := (sk_67 1362 rfl).trans rfl
theorem te_368_1363 : (pT M_368).find? (fun e => e.1 == 1363) = some (1363, .iadd, 0, 0) := (sk_67 1363 rfl).trans rfl
theorem te_368_1364 : (pT M_368).find? (fun e => e.1 == 1364) = some (1364, .iaload, 0, 0) := (sk_67 1364 rfl).trans rfl
theorem te_368_1365 : (pT M_368).find? (fun e => e.1 == 1365) = some (1365, .aload_n 3, 0, 0) := (sk_67 1365 rfl).trans rfl
theorem te_368_1366 : (pT M_368).find? (fun e => e.1 == 1366) = some (1366, .invokestatic 267, 165, 8) := (sk_67 1366 rfl).trans rfl
theorem te_368_1369 : (pT M_368).find? (fun e => e.1 == 1369) = some (1369, .istore 5, 0, 0) := (sk_67 1369 rfl).trans rfl
theorem te_368_1371 : (pT M_368).find? (fun e => e.1 == 1371) = some (1371, .aload_n 2, 0, 0) := (sk_68 1371 rfl).trans rfl
theorem te_368_1372 : (pT M_368).find? (fun e => e.1 == 1372) = some (1372, .aload_n 0, 0, 0) := (sk_68 1372 rfl).trans rfl
theorem te_368_1373 : (pT M_368).find? (fun e => e.1 == 1373) = some (1373, .iload 4, 0, 0) := (sk_68 1373 rfl).trans rfl
theorem te_368_1375 : (pT M_368).find? (fun e => e.1 == 1375) = some (1375, .iconst 1, 0, 0) := (sk_68 1375 rfl).trans rfl
theorem te_368_1376 : (pT M_368).find? (fun e => e.1 == 1376) = some (1376, .iadd, 0, 0) := (sk_68 1376 rfl).trans rfl
theorem te_368_1377 : (pT M_368).find? (fun e => e.1 == 1377) = some (1377, .iaload, 0, 0) := (sk_68 1377 rfl).trans rfl
theorem te_368_1378 : (pT M_368).find? (fun e => e.1 == 1378) = some (1378, .aload_n 0, 0, 0) := (sk_68 1378 rfl).trans rfl
theorem te_368_1379 : (pT M_368).find? (fun e => e.1 == 1379) = some (1379, .iload 4, 0, 0) := (sk_68 1379 rfl).trans rfl
theorem te_368_1381 : (pT M_368).find? (fun e => e.1 == 1381) = some (1381, .iconst 2, 0, 0) := (sk_68 1381 rfl).trans rfl
theorem te_368_1382 : (pT M_368).find? (fun e => e.1 == 1382) = some (1382, .iadd, 0, 0) := (sk_68 1382 rfl).trans rfl
theorem te_368_1383 : (pT M_368).find? (fun e => e.1 == 1383) = some (1383, .iaload, 0, 0) := (sk_68 1383 rfl).trans rfl
theorem te_368_1384 : (pT M_368).find? (fun e => e.1 == 1384) = some (1384, .aload_n 0, 0, 0) := (sk_68 1384 rfl).trans rfl
theorem te_368_1385 : (pT M_368).find? (fun e => e.1 == 1385) = some (1385, .iload 4, 0, 0) := (sk_69 1385 rfl).trans rfl
theorem te_368_1387 : (pT M_368).find? (fun e => e.1 == 1387) = some (1387, .iconst 3, 0, 0) := (sk_69 1387 rfl).trans rfl
theorem te_368_1388 : (pT M_368).find? (fun e => e.1 == 1388) = some (1388, .iadd, 0, 0) := (sk_69 1388 rfl).trans rfl
theorem te_368_1389 : (pT M_368).find? (fun e => e.1 == 1389) = some (1389, .iaload, 0, 0) := (sk_69 1389 rfl).trans rfl
theorem te_368_1390 : (pT M_368).find? (fun e => e.1 == 1390) = some (1390, .invokevirtual 269, 325, 0) := (sk_69 1390 rfl).trans rfl
theorem te_368_1393 : (pT M_368).find? (fun e => e.1 == 1393) = some (1393, .istore 6, 0, 0) := (sk_69 1393 rfl).trans rfl
theorem te_368_1395 : (pT M_368).find? (fun e => e.1 == 1395) = some (1395, .goto 932, 0, 0) := (sk_69 1395 rfl).trans rfl
theorem lc_14 {S : Nat × (Nat → Int32)} {lv : LV} {h : PH} {c s : Nat} {i : Int32} (hS : S.1 ≤ 3072) (hl : LwS lv i) (hi : 0 ≤ i.toInt ∧ i.toInt + 5 < S.1) (hL : LI h) (hc : c + 8 ≤ 601024) (hs : s + 48 ≤ 7293033) (Nx : ∀ lv' h' c' s', LwS lv' i → LI h' → c' ≤ c + 8 → s' ≤ s + 48 → Vx (Ex S 24) S M_368 [] Q1 2327 lv' [] h' c' s') : Vx (Ex S 24) S M_368 [] Q1 842 lv [] h c s := by
  have hC := Ex.mono S 24
  refine Vx.go hC te_368_842 ?_
  refine ⟨_, hl.2.1, ⟨0, Or.inl rfl⟩, ?_⟩
  refine Vx.go hC te_368_843 ?_
  refine ⟨_, hl.2.2.2.1, ⟨173, Or.inl rfl⟩, ?_⟩
  refine Vx.go hC te_368_844 ?_
  refine Or.inr ⟨by decide, ?_⟩
  refine p_call_mk (av := [.ref 0, .ref 173]) (rest := []) mt_111 rfl (by decide) (show c + 1 ≤ 601024 by omega) (show s + 6 ≤ 7293033 by omega) (fun q => by cases q) ?_
  refine g_111 (n := 6) hL (fun r3 h1 hL2 => ?_)
  show Vx (Ex S 24) S M_368 [] Q1 847 lv [.int r3] h1 (c + 1) (s + 6)
  refine Vx.go hC te_368_847 ?_
  refine ⟨by decide, ?_⟩
  have hl4 := LwS.st (j := 5) (v := .int r3) (by omega) hl
  show Vx (Ex S 24) S M_368 [] Q1 849 (px_s1 lv 5 (.int r3)) [] h1 (c + 1) (s + 6)
  refine Vx.go hC te_368_849 ?_
  refine ⟨_, hl4.2.2.1, ⟨143, Or.inl rfl⟩, ?_⟩
  refine Vx.go hC te_368_850 ?_
  obtain ⟨gs8, gs8g⟩ := hL2.obj (A := 143) rfl
  have hcall9 := ref_call (S := S) (n := 24) (μ := 277) (args := [.inr 143]) (h := h1) (fun v hv => by simp only [List.mem_cons, List.not_mem_nil, or_false] at hv; rw [hv]; trivial) hL2 (fun mem hr => f_277 hr (fun r m' a b => ⟨a, b⟩))
  simp only [List.map_cons, List.map_nil, wv, Int32.ofInt_toInt] at hcall9
  refine p_call_mk (av := [.ref 143]) (rest := []) mt_277 rfl (by decide) (show (c + 1) + 0 ≤ 601024 by omega) (show (s + 6) + 0 ≤ 7293033 by omega) (fun _ => ⟨143, gs8, rfl, gs8g⟩) ?_
  refine hC _ _ _ _ _ ?_ hcall9
  rintro _ h5 ⟨hL6, r7, rfl⟩
  show Vx (Ex S 24) S M_368 [] Q1 853 (px_s1 lv 5 (.int r3)) [.int r7] h5 (c + 1) (s + 6)
  refine Vx.go hC te_368_853 ?_
  refine ⟨by decide, ?_⟩
  have hl10 := LwS.st (j := 6) (v := .int r7) (by omega) hl4
  show Vx (Ex S 24) S M_368 [] Q1 855 (px_s1 (px_s1 lv 5 (.int r3)) 6 (.int r7)) [] h5 (c + 1) (s + 6)
  refine Vx.go hC te_368_855 ?_
  refine ⟨by decide, ?_⟩
  exact Nx _ _ _ _ hl10 hL6 (by omega) (by omega)
theorem lc_15 {S : Nat × (Nat → Int32)} {lv : LV} {h : PH} {c s : Nat} {i : Int32} (hS : S.1 ≤ 3072) (hl : LwS lv i) (hi : 0 ≤ i.toInt ∧ i.toInt + 5 < S.1) (hL : LI h) (hc : c + 8 ≤ 601024) (hs : s + 48 ≤ 7293033) (Nx : ∀ lv' h' c' s', LwS lv' i → LI h' → c' ≤ c + 8 → s' ≤ s + 48 → Vx (Ex S 24) S M_368 [] Q1 2327 lv' [] h' c' s') : Vx (Ex S 24) S M_368 [] Q1 858 lv [] h c s := by
  have hC := Ex.mono S 24
  refine Vx.go hC te_368_858 ?_
  refine ⟨_, hl.2.1, ⟨0, Or.inl rfl⟩, ?_⟩
  refine sc_load hC (k := 1) hl te_368_859 te_368_860 te_368_862 te_368_863 te_368_864 (sc_in hS hi (by decide)) ?_
  refine sc_load hC (k := 2) hl te_368_865 te_368_866 te_368_868 te_368_869 te_368_870 (sc_in hS hi (by decide)) ?_
  refine Vx.go hC te_368_871 ?_
  refine ⟨_, hl.2.2.2.1, ⟨173, Or.inl rfl⟩, ?_⟩
  refine Vx.go hC te_368_872 ?_
  refine Or.inr ⟨by decide, ?_⟩
  refine p_call_mk (av := [.ref 0, .int (S.2 (i + Int32.ofInt 1).toNatClampNeg), .int (S.2 (i + Int32.ofInt 2).toNatClampNeg), .ref 173]) (rest := []) mt_113 rfl (by decide) (show c + 4 ≤ 601024 by omega) (show s + 24 ≤ 7293033 by omega) (fun q => by cases q) ?_
  refine g_113 (n := 6) hL (fun r3 h1 hL2 => ?_)
  show Vx (Ex S 24) S M_368 [] Q1 875 lv [.int r3] h1 (c + 4) (s + 24)
  refine Vx.go hC te_368_875 ?_
  refine ⟨by decide, ?_⟩
  have hl4 := LwS.st (j := 5) (v := .int r3) (by omega) hl
  show Vx (Ex S 24) S M_368 [] Q1 877 (px_s1 lv 5 (.int r3)) [] h1 (c + 4) (s + 24)
  refine Vx.go hC te_368_877 ?_
  refine ⟨_, hl4.2.2.1, ⟨143, Or.inl rfl⟩, ?_⟩
  refine sc_load hC (k := 1) hl4 te_368_878 te_368_879 te_368_881 te_368_882 te_368_883 (sc_in hS hi (by decide)) ?_
  refine sc_load hC (k := 2) hl4 te_368_884 te_368_885 te_368_887 te_368_888 te_368_889 (sc_in hS hi (by decide)) ?_
  refine Vx.go hC te_368_890 ?_
  obtain ⟨gs8, gs8g⟩ := hL2.obj (A := 143) rfl
  have hcall9 := ref_call (S := S) (n := 24) (μ := 278) (args := [.inr 143, .inl ((S.2 (i + Int32.ofInt 1).toNatClampNeg) : Int32).toInt, .inl ((S.2 (i + Int32.ofInt 2).toNatClampNeg) : Int32).toInt]) (h := h1) (fun v hv => by simp only [List.mem_cons, List.not_mem_nil, or_false] at hv; rcases hv with rfl | rfl | rfl <;> first | trivial | exact wiI _) hL2 (fun mem hr => f_278 hr (fun r m' a b => ⟨a, b⟩))
  simp only [List.map_cons, List.map_nil, wv, Int32.ofInt_toInt] at hcall9
  refine p_call_mk (av := [.ref 143, .int (S.2 (i + Int32.ofInt 1).toNatClampNeg), .int (S.2 (i + Int32.ofInt 2).toNatClampNeg)]) (rest := []) mt_278 rfl (by decide) (show (c + 4) + 0 ≤ 601024 by omega) (show (s + 24) + 0 ≤ 7293033 by omega) (fun _ => ⟨143, gs8, rfl, gs8g⟩) ?_
  refine hC _ _ _ _ _ ?_ hcall9
  rintro _ h5 ⟨hL6, r7, rfl⟩
  show Vx (Ex S 24) S M_368 [] Q1 893 (px_s1 lv 5 (.int r3)) [.int r7] h5 (c + 4) (s + 24)
  refine Vx.go hC te_368_893 ?_
  refine ⟨by decide, ?_⟩
  have hl10 := LwS.st (j := 6) (v := .int r7) (by omega) hl4
  show Vx (Ex S 24) S M_368 [] Q1 895 (px_s1 (px_s1 lv 5 (.int r3)) 6 (.int r7)) [] h5 (c + 4) (s + 24)
  refine Vx.go hC te_368_895 ?_
  refine ⟨by decide, ?_⟩
  exact Nx _ _ _ _ hl10 hL6 (by omega) (by omega)
theorem lc_16 {S : Nat × (Nat → Int32)} {lv : LV} {h : PH} {c s : Nat} {i : Int32} (hS : S.1 ≤ 3072) (hl : LwS lv i) (hi : 0 ≤ i.toInt ∧ i.toInt + 5 < S.1) (hL : LI h) (hc : c + 8 ≤ 601024) (hs : s + 48 ≤ 7293033) (Nx : ∀ lv' h' c' s', LwS lv' i → LI h' → c' ≤ c + 8 → s' ≤ s + 48 → Vx (Ex S 24) S M_368 [] Q1 2327 lv' [] h' c' s') : Vx (Ex S 24) S M_368 [] Q1 898 lv [] h c s := by
  have hC := Ex.mono S 24
  refine Vx.go hC te_368_898 ?_
  refine ⟨_, hl.2.1, ⟨0, Or.inl rfl⟩, ?_⟩
  refine sc_load hC (k := 1) hl te_368_899 te_368_900 te_368_902 te_368_903 te_368_904 (sc_in hS hi (by decide)) ?_
  refine sc_load hC (k := 2) hl te_368_905 te_368_906 te_368_908 te_368_909 te_368_910 (sc_in hS hi (by decide)) ?_
  refine sc_load hC (k := 3) hl te_368_911 te_368_912 te_368_914 te_368_915 te_368_916 (sc_in hS hi (by decide)) ?_
  refine Vx.go hC te_368_917 ?_
  refine ⟨_, hl.2.2.2.1, ⟨173, Or.inl rfl⟩, ?_⟩
  refine Vx.go hC te_368_918 ?_
  refine Or.inr ⟨by decide, ?_⟩
  refine p_call_mk (av := [.ref 0, .int (S.2 (i + Int32.ofInt 1).toNatClampNeg), .int (S.2 (i + Int32.ofInt 2).toNatClampNeg), .int (S.2 (i + Int32.ofInt 3).toNatClampNeg), .ref 173]) (rest := []) mt_116 rfl (by decide) (show c + 6 ≤ 601024 by omega) (show s + 36 ≤ 7293033 by omega) (fun q => by cases q) ?_
  refine g_116 (n := 6) hL (fun r3 h1 hL2 => ?_)
  show Vx (Ex S 24) S M_368 [] Q1 921 lv [.int r3] h1 (c + 6) (s + 36)
  refine Vx.go hC te_368_921 ?_
  refine ⟨by decide, ?_⟩
  have hl4 := LwS.st (j := 5) (v := .int r3) (by omega) hl
  show Vx (Ex S 24) S M_368 [] Q1 923 (px_s1 lv 5 (.int r3)) [] h1 (c + 6) (s + 36)
  refine Vx.go hC te_368_923 ?_
  refine ⟨_, hl4.2.2.1, ⟨143, Or.inl rfl⟩, ?_⟩
  refine sc_load hC (k := 1) hl4 te_368_924 te_368_925 te_368_927 te_368_928 te_368_929 (sc_in hS hi (by decide)) ?_
  refine sc_load hC (k := 2) hl4 te_368_930 te_368_931 te_368_933 te_368_934 te_368_935 (sc_in hS hi (by decide)) ?_
  refine sc_load hC (k := 3) hl4 te_368_936 te_368_937 te_368_939 te_368_940 te_368_941 (sc_in hS hi (by decide)) ?_
  refine Vx.go hC te_368_942 ?_
  obtain ⟨gs8, gs8g⟩ := hL2.obj (A := 143) rfl
  have hcall9 := ref_call (S := S) (n := 24) (μ := 279) (args := [.inr 143, .inl ((S.2 (i + Int32.ofInt 1).toNatClampNeg) : Int32).toInt, .inl ((S.2 (i + Int32.ofInt 2).toNatClampNeg) : Int32).toInt, .inl ((S.2 (i + Int32.ofInt 3).toNatClampNeg) : Int32).toInt]) (h := h1) (fun v hv => by simp only [List.mem_cons, List.not_mem_nil, or_false] at hv; rcases hv with rfl | rfl | rfl | rfl <;> first | trivial | exact wiI _) hL2 (fun mem hr => f_279 hr (fun r m' a b => ⟨a, b⟩))
  simp only [List.map_cons, List.map_nil, wv, Int32.ofInt_toInt] at hcall9
  refine p_call_mk (av := [.ref 143, .int (S.2 (i + Int32.ofInt 1).toNatClampNeg), .int (S.2 (i + Int32.ofInt 2).toNatClampNeg), .int (S.2 (i + Int32.ofInt 3).toNatClampNeg)]) (rest := []) mt_279 rfl (by decide) (show (c + 6) + 0 ≤ 601024 by omega) (show (s + 36) + 0 ≤ 7293033 by omega) (fun _ => ⟨143, gs8, rfl, gs8g⟩) ?_
  refine hC _ _ _ _ _ ?_ hcall9
  rintro _ h5 ⟨hL6, r7, rfl⟩
  show Vx (Ex S 24) S M_368 [] Q1 945 (px_s1 lv 5 (.int r3)) [.int r7] h5 (c + 6) (s + 36)
  refine Vx.go hC te_368_945 ?_
  refine ⟨by decide, ?_⟩
  have hl10 := LwS.st (j := 6) (v := .int r7) (by omega) hl4
  show Vx (Ex S 24) S M_368 [] Q1 947 (px_s1 (px_s1 lv 5 (.int r3)) 6 (.int r7)) [] h5 (c + 6) (s + 36)
  refine Vx.go hC te_368_947 ?_
  refine ⟨by decide, ?_⟩
  exact Nx _ _ _ _ hl10 hL6 (by omega) (by omega)
theorem lc_17 {S : Nat × (Nat → Int32)} {lv : LV} {h : PH} {c s : Nat} {i : Int32} (hS : S.1 ≤ 3072) (hl : LwS lv i) (hi : 0 ≤ i.toInt ∧ i.toInt + 5 < S.1) (hL : LI h) (hc : c + 8 ≤ 601024) (hs : s + 48 ≤ 7293033) (Nx : ∀ lv' h' c' s', LwS lv' i → LI h' → c' ≤ c + 8 → s' ≤ s + 48 → Vx (Ex S 24) S M_368 [] Q1 2327 lv' [] h' c' s') : Vx (Ex S 24) S M_368 [] Q1 950 lv [] h c s := by
  have hC := Ex.mono S 24
  refine Vx.go hC te_368_950 ?_
  refine ⟨_, hl.2.1, ⟨0, Or.inl rfl⟩, ?_⟩
  refine sc_load hC (k := 1) hl te_368_951 te_368_952 te_368_954 te_368_955 te_368_956 (sc_in hS hi (by decide)) ?_
  refine sc_load hC (k := 2) hl te_368_957 te_368_958 te_368_960 te_368_961 te_368_962 (sc_in hS hi (by decide)) ?_
  refine Vx.go hC te_368_963 ?_
  refine ⟨_, hl.2.2.2.1, ⟨173, Or.inl rfl⟩, ?_⟩
  refine Vx.go hC te_368_964 ?_
  refine Or.inr ⟨by decide, ?_⟩
  refine p_call_mk (av := [.ref 0, .int (S.2 (i + Int32.ofInt 1).toNatClampNeg), .int (S.2 (i + Int32.ofInt 2).toNatClampNeg), .ref 173]) (rest := []) mt_121 rfl (by decide) (show c + 4 ≤ 601024 by omega) (show s + 24 ≤ 7293033 by omega) (fun q => by cases q) ?_
  refine g_121 (n := 6) hL (fun r3 h1 hL2 => ?_)
  show Vx (Ex S 24) S M_368 [] Q1 967 lv [.int r3] h1 (c + 4) (s + 24)
  refine Vx.go hC te_368_967 ?_
  refine ⟨by decide, ?_⟩
  have hl4 := LwS.st (j := 5) (v := .int r3) (by omega) hl
  show Vx (Ex S 24) S M_368 [] Q1 969 (px_s1 lv 5 (.int r3)) [] h1 (c + 4) (s + 24)
  refine Vx.go hC te_368_969 ?_
  refine ⟨_, hl4.2.2.1, ⟨143, Or.inl rfl⟩, ?_⟩
  refine sc_load hC (k := 1) hl4 te_368_970 te_368_971 te_368_973 te_368_974 te_368_975 (sc_in hS hi (by decide)) ?_
  refine sc_load hC (k := 2) hl4 te_368_976 te_368_977 te_368_979 te_368_980 te_368_981 (sc_in hS hi (by decide)) ?_
  refine Vx.go hC te_368_982 ?_
  obtain ⟨gs8, gs8g⟩ := hL2.obj (A := 143) rfl
  have hcall9 := ref_call (S := S) (n := 24) (μ := 280) (args := [.inr 143, .inl ((S.2 (i + Int32.ofInt 1).toNatClampNeg) : Int32).toInt, .inl ((S.2 (i + Int32.ofInt 2).toNatClampNeg) : Int32).toInt]) (h := h1) (fun v hv => by simp only [List.mem_cons, List.not_mem_nil, or_false] at hv; rcases hv with rfl | rfl | rfl <;> first | trivial | exact wiI _) hL2 (fun mem hr => f_280 hr (fun r m' a b => ⟨a, b⟩))
  simp only [List.map_cons, List.map_nil, wv, Int32.ofInt_toInt] at hcall9
  refine p_call_mk (av := [.ref 143, .int (S.2 (i + Int32.ofInt 1).toNatClampNeg), .int (S.2 (i + Int32.ofInt 2).toNatClampNeg)]) (rest := []) mt_280 rfl (by decide) (show (c + 4) + 0 ≤ 601024 by omega) (show (s + 24) + 0 ≤ 7293033 by omega) (fun _ => ⟨143, gs8, rfl, gs8g⟩) ?_
  refine hC _ _ _ _ _ ?_ hcall9
  rintro _ h5 ⟨hL6, r7, rfl⟩
  show Vx (Ex S 24) S M_368 [] Q1 985 (px_s1 lv 5 (.int r3)) [.int r7] h5 (c + 4) (s + 24)
  refine Vx.go hC te_368_985 ?_
  refine ⟨by decide, ?_⟩
  have hl10 := LwS.st (j := 6) (v := .int r7) (by omega) hl4
  show Vx (Ex S 24) S M_368 [] Q1 987 (px_s1 (px_s1 lv 5 (.int r3)) 6 (.int r7)) [] h5 (c + 4) (s + 24)
  refine Vx.go hC te_368_987 ?_
  refine ⟨by decide, ?_⟩
  exact Nx _ _ _ _ hl10 hL6 (by omega) (by omega)
theorem lc_18 {S : Nat × (Nat → Int32)} {lv : LV} {h : PH} {c s : Nat} {i : Int32} (hS : S.1 ≤ 3072) (hl : LwS lv i) (hi : 0 ≤ i.toInt ∧ i.toInt + 5 < S.1) (hL : LI h) (hc : c + 8 ≤ 601024) (hs : s + 48 ≤ 7293033) (Nx : ∀ lv' h' c' s', LwS lv' i → LI h' → c' ≤ c + 8 → s' ≤ s + 48 → Vx (Ex S 24) S M_368 [] Q1 2327 lv' [] h' c' s') : Vx (Ex S 24) S M_368 [] Q1 990 lv [] h c s := by
  have hC := Ex.mono S 24
  refine Vx.go hC te_368_990 ?_
  refine ⟨_, hl.2.1, ⟨0, Or.inl rfl⟩, ?_⟩
  refine sc_load hC (k := 1) hl te_368_991 te_368_992 te_368_994 te_368_995 te_368_996 (sc_in hS hi (by decide)) ?_
  refine Vx.go hC te_368_997 ?_
  refine ⟨_, hl.2.2.2.1, ⟨173, Or.inl rfl⟩, ?_⟩
  refine Vx.go hC te_368_998 ?_
  refine Or.inr ⟨by decide, ?_⟩
  refine p_call_mk (av := [.ref 0, .int (S.2 (i + Int32.ofInt 1).toNatClampNeg), .ref 173]) (rest := []) mt_135 rfl (by decide) (show c + 3 ≤ 601024 by omega) (show s + 18 ≤ 7293033 by omega) (fun q => by cases q) ?_
  refine g_135 (n := 6) hL (fun r3 h1 hL2 => ?_)
  show Vx (Ex S 24) S M_368 [] Q1 1001 lv [.int r3] h1 (c + 3) (s + 18)
  refine Vx.go hC te_368_1001 ?_
  refine ⟨by decide, ?_⟩
  have hl4 := LwS.st (j := 5) (v := .int r3) (by omega) hl
  show Vx (Ex S 24) S M_368 [] Q1 1003 (px_s1 lv 5 (.int r3)) [] h1 (c + 3) (s + 18)
  refine Vx.go hC te_368_1003 ?_
  refine ⟨_, hl4.2.2.1, ⟨143, Or.inl rfl⟩, ?_⟩
  refine sc_load hC (k := 1) hl4 te_368_1004 te_368_1005 te_368_1007 te_368_1008 te_368_1009 (sc_in hS hi (by decide)) ?_
  refine Vx.go hC te_368_1010 ?_
  obtain ⟨gs8, gs8g⟩ := hL2.obj (A := 143) rfl
  have hcall9 := ref_call (S := S) (n := 24) (μ := 292) (args := [.inr 143, .inl ((S.2 (i + Int32.ofInt 1).toNatClampNeg) : Int32).toInt]) (h := h1) (fun v hv => by simp only [List.mem_cons, List.not_mem_nil, or_false] at hv; rcases hv with rfl | rfl <;> first | trivial | exact wiI _) hL2 (fun mem hr => f_292 hr (fun r m' a b => ⟨a, b⟩))
  simp only [List.map_cons, List.map_nil, wv, Int32.ofInt_toInt] at hcall9
  refine p_call_mk (av := [.ref 143, .int (S.2 (i + Int32.ofInt 1).toNatClampNeg)]) (rest := []) mt_292 rfl (by decide) (show (c + 3) + 0 ≤ 601024 by omega) (show (s + 18) + 0 ≤ 7293033 by omega) (fun _ => ⟨143, gs8, rfl, gs8g⟩) ?_
  refine hC _ _ _ _ _ ?_ hcall9
  rintro _ h5 ⟨hL6, r7, rfl⟩
  show Vx (Ex S 24) S M_368 [] Q1 1013 (px_s1 lv 5 (.int r3)) [.int r7] h5 (c + 3) (s + 18)
  refine Vx.go hC te_368_1013 ?_
  refine ⟨by decide, ?_⟩
  have hl10 := LwS.st (j := 6) (v := .int r7) (by omega) hl4
  show Vx (Ex S 24) S M_368 [] Q1 1015 (px_s1 (px_s1 lv 5 (.int r3)) 6 (.int r7)) [] h5 (c + 3) (s + 18)
  refine Vx.go hC te_368_1015 ?_
  refine ⟨by decide, ?_⟩
  exact Nx _ _ _ _ hl10 hL6 (by omega) (by omega)
theorem lc_19 {S : Nat × (Nat → Int32)} {lv : LV} {h : PH} {c s : Nat} {i : Int32} (hS : S.1 ≤ 3072) (hl : LwS lv i) (hi : 0 ≤ i.toInt ∧ i.toInt + 5 < S.1) (hL : LI h) (hc : c + 8 ≤ 601024) (hs : s + 48 ≤ 7293033) (Nx : ∀ lv' h' c' s', LwS lv' i → LI h' → c' ≤ c + 8 → s' ≤ s + 48 → Vx (Ex S 24) S M_368 [] Q1 2327 lv' [] h' c' s') : Vx (Ex S 24) S M_368 [] Q1 1018 lv [] h c s := by
  have hC := Ex.mono S 24
  refine Vx.go hC te_368_1018 ?_
  refine ⟨_, hl.2.1, ⟨0, Or.inl rfl⟩, ?_⟩
  refine Vx.go hC te_368_1019 ?_
  refine ⟨_, hl.2.2.2.1, ⟨173, Or.inl rfl⟩, ?_⟩
  refine Vx.go hC te_368_1020 ?_
  refine Or.inr ⟨by decide, ?_⟩
  refine p_call_mk (av := [.ref 0, .ref 173]) (rest := []) mt_137 rfl (by decide) (show c + 1 ≤ 601024 by omega) (show s + 6 ≤ 7293033 by omega) (fun q => by cases q) ?_
  refine g_137 (n := 6) hL (fun r3 h1 hL2 => ?_)
  show Vx (Ex S 24) S M_368 [] Q1 1023 lv [.int r3] h1 (c + 1) (s + 6)
  refine Vx.go hC te_368_1023 ?_
  refine ⟨by decide, ?_⟩
  have hl4 := LwS.st (j := 5) (v := .int r3) (by omega) hl
  show Vx (Ex S 24) S M_368 [] Q1 1025 (px_s1 lv 5 (.int r3)) [] h1 (c + 1) (s + 6)
  refine Vx.go hC te_368_1025 ?_
  refine ⟨_, hl4.2.2.1, ⟨143, Or.inl rfl⟩, ?_⟩
  refine Vx.go hC te_368_1026 ?_
  obtain ⟨gs8, gs8g⟩ := hL2.obj (A := 143) rfl
  have hcall9 := ref_call (S := S) (n := 24) (μ := 293) (args := [.inr 143]) (h := h1) (fun v hv => by simp only [List.mem_cons, List.not_mem_nil, or_false] at hv; rw [hv]; trivial) hL2 (fun mem hr => f_293 hr (fun r m' a b => ⟨a, b⟩))
  simp only [List.map_cons, List.map_nil, wv, Int32.ofInt_toInt] at hcall9
  refine p_call_mk (av := [.ref 143]) (rest := []) mt_293 rfl (by decide) (show (c + 1) + 0 ≤ 601024 by omega) (show (s + 6) + 0 ≤ 7293033 by omega) (fun _ => ⟨143, gs8, rfl, gs8g⟩) ?_
  refine hC _ _ _ _ _ ?_ hcall9
  rintro _ h5 ⟨hL6, r7, rfl⟩
  show Vx (Ex S 24) S M_368 [] Q1 1029 (px_s1 lv 5 (.int r3)) [.int r7] h5 (c + 1) (s + 6)
  refine Vx.go hC te_368_1029 ?_
  refine ⟨by decide, ?_⟩
  have hl10 := LwS.st (j := 6) (v := .int r7) (by omega) hl4
  show Vx (Ex S 24) S M_368 [] Q1 1031 (px_s1 (px_s1 lv 5 (.int r3)) 6 (.int r7)) [] h5 (c + 1) (s + 6)
  refine Vx.go hC te_368_1031 ?_
  refine ⟨by decide, ?_⟩
  exact Nx _ _ _ _ hl10 hL6 (by omega) (by omega)
theorem lc_20 {S : Nat × (Nat → Int32)} {lv : LV} {h : PH} {c s : Nat} {i : Int32} (hS : S.1 ≤ 3072) (hl : LwS lv i) (hi : 0 ≤ i.toInt ∧ i.toInt + 5 < S.1) (hL : LI h) (hc : c + 8 ≤ 601024) (hs : s + 48 ≤ 7293033) (Nx : ∀ lv' h' c' s', LwS lv' i → LI h' → c' ≤ c + 8 → s' ≤ s + 48 → Vx (Ex S 24) S M_368 [] Q1 2327 lv' [] h' c' s') : Vx (Ex S 24) S M_368 [] Q1 1034 lv [] h c s := by
  have hC := Ex.mono S 24
  refine Vx.go hC te_368_1034 ?_
  refine ⟨_, hl.2.1, ⟨0, Or.inl rfl⟩, ?_⟩
  refine sc_load hC (k := 1) hl te_368_1035 te_368_1036 te_368_1038 te_368_1039 te_368_1040 (sc_in hS hi (by decide)) ?_
  refine sc_load hC (k := 2) hl te_368_1041 te_368_1042 te_368_1044 te_368_1045 te_368_1046 (sc_in hS hi (by decide)) ?_
  refine Vx.go hC te_368_1047 ?_
  refine ⟨_, hl.2.2.2.1, ⟨173, Or.inl rfl⟩, ?_⟩
  refine Vx.go hC te_368_1048 ?_
  refine Or.inr ⟨by decide, ?_⟩
  refine p_call_mk (av := [.ref 0, .int (S.2 (i + Int32.ofInt 1).toNatClampNeg), .int (S.2 (i + Int32.ofInt 2).toNatClampNeg), .ref 173]) (rest := []) mt_139 rfl (by decide) (show c + 4 ≤ 601024 by omega) (show s + 24 ≤ 7293033 by omega) (fun q => by cases q) ?_
  refine g_139 (n := 6) hL (fun r3 h1 hL2 => ?_)
  show Vx (Ex S 24) S M_368 [] Q1 1051 lv [.int r3] h1 (c + 4) (s + 24)
  refine Vx.go hC te_368_1051 ?_
  refine ⟨by decide, ?_⟩
  have hl4 := LwS.st (j := 5) (v := .int r3) (by omega) hl
  show Vx (Ex S 24) S M_368 [] Q1 1053 (px_s1 lv 5 (.int r3)) [] h1 (c + 4) (s + 24)
  refine Vx.go hC te_368_1053 ?_
  refine ⟨_, hl4.2.2.1, ⟨143, Or.inl rfl⟩, ?_⟩
  refine sc_load hC (k := 1) hl4 te_368_1054 te_368_1055 te_368_1057 te_368_1058 te_368_1059 (sc_in hS hi (by decide)) ?_
  refine sc_load hC (k := 2) hl4 te_368_1060 te_368_1061 te_368_1063 te_368_1064 te_368_1065 (sc_in hS hi (by decide)) ?_
  refine Vx.go hC te_368_1066 ?_
  obtain ⟨gs8, gs8g⟩ := hL2.obj (A := 143) rfl
  have hcall9 := ref_call (S := S) (n := 24) (μ := 294) (args := [.inr 143, .inl ((S.2 (i + Int32.ofInt 1).toNatClampNeg) : Int32).toInt, .inl ((S.2 (i + Int32.ofInt 2).toNatClampNeg) : Int32).toInt]) (h := h1) (fun v hv => by simp only [List.mem_cons, List.not_mem_nil, or_false] at hv; rcases hv with rfl | rfl | rfl <;> first | trivial | exact wiI _) hL2 (fun mem hr => f_294 hr (fun r m' a b => ⟨a, b⟩))
  simp only [List.map_cons, List.map_nil, wv, Int32.ofInt_toInt] at hcall9
  refine p_call_mk (av := [.ref 143, .int (S.2 (i + Int32.ofInt 1).toNatClampNeg), .int (S.2 (i + Int32.ofInt 2).toNatClampNeg)]) (rest := []) mt_294 rfl (by decide) (show (c + 4) + 0 ≤ 601024 by omega) (show (s + 24) + 0 ≤ 7293033 by omega) (fun _ => ⟨143, gs8, rfl, gs8g⟩) ?_
  refine hC _ _ _ _ _ ?_ hcall9
  rintro _ h5 ⟨hL6, r7, rfl⟩
  show Vx (Ex S 24) S M_368 [] Q1 1069 (px_s1 lv 5 (.int r3)) [.int r7] h5 (c + 4) (s + 24)
  refine Vx.go hC te_368_1069 ?_
  refine ⟨by decide, ?_⟩
  have hl10 := LwS.st (j := 6) (v := .int r7) (by omega) hl4
  show Vx (Ex S 24) S M_368 [] Q1 1071 (px_s1 (px_s1 lv 5 (.int r3)) 6 (.int r7)) [] h5 (c + 4) (s + 24)
  refine Vx.go hC te_368_1071 ?_
  refine ⟨by decide, ?_⟩
  exact Nx _ _ _ _ hl10 hL6 (by omega) (by omega)
theorem lc_21 {S : Nat × (Nat → Int32)} {lv : LV} {h : PH} {c s : Nat} {i : Int32} (hS : S.1 ≤ 3072) (hl : LwS lv i) (hi : 0 ≤ i.toInt ∧ i.toInt + 5 < S.1) (hL : LI h) (hc : c + 8 ≤ 601024) (hs : s + 48 ≤ 7293033) (Nx : ∀ lv' h' c' s', LwS lv' i → LI h' → c' ≤ c + 8 → s' ≤ s + 48 → Vx (Ex S 24) S M_368 [] Q1 2327 lv' [] h' c' s') : Vx (Ex S 24) S M_368 [] Q1 1074 lv [] h c s := by
  have hC := Ex.mono S 24
  refine Vx.go hC te_368_1074 ?_
  refine ⟨_, hl.2.1, ⟨0, Or.inl rfl⟩, ?_⟩
  refine sc_load hC (k := 1) hl te_368_1075 te_368_1076 te_368_1078 te_368_1079 te_368_1080 (sc_in hS hi (by decide)) ?_
  refine sc_load hC (k := 2) hl te_368_1081 te_368_1082 te_368_1084 te_368_1085 te_368_1086 (sc_in hS hi (by decide)) ?_
  refine sc_load hC (k := 3) hl te_368_1087 te_368_1088 te_368_1090 te_368_1091 te_368_1092 (sc_in hS hi (by decide)) ?_
  refine Vx.go hC te_368_1093 ?_
  refine ⟨_, hl.2.2.2.1, ⟨173, Or.inl rfl⟩, ?_⟩
  refine Vx.go hC te_368_1094 ?_
  refine Or.inr ⟨by decide, ?_⟩
  refine p_call_mk (av := [.ref 0, .int (S.2 (i + Int32.ofInt 1).toNatClampNeg), .int (S.2 (i + Int32.ofInt 2).toNatClampNeg), .int (S.2 (i + Int32.ofInt 3).toNatClampNeg), .ref 173]) (rest := []) mt_144 rfl (by decide) (show c + 5 ≤ 601024 by omega) (show s + 30 ≤ 7293033 by omega) (fun q => by cases q) ?_
  refine g_144 (n := 6) hL (fun r3 h1 hL2 => ?_)
  show Vx (Ex S 24) S M_368 [] Q1 1097 lv [.int r3] h1 (c + 5) (s + 30)
  refine Vx.go hC te_368_1097 ?_
  refine ⟨by decide, ?_⟩
  have hl4 := LwS.st (j := 5) (v := .int r3) (by omega) hl
  show Vx (Ex S 24) S M_368 [] Q1 1099 (px_s1 lv 5 (.int r3)) [] h1 (c + 5) (s + 30)
  refine Vx.go hC te_368_1099 ?_
  refine ⟨_, hl4.2.2.1, ⟨143, Or.inl rfl⟩, ?_⟩
  refine sc_load hC (k := 1) hl4 te_368_1100 te_368_1101 te_368_1103 te_368_1104 te_368_1105 (sc_in hS hi (by decide)) ?_
  refine sc_load hC (k := 2) hl4 te_368_1106 te_368_1107 te_368_1109 te_368_1110 te_368_1111 (sc_in hS hi (by decide)) ?_
  refine sc_load hC (k := 3) hl4 te_368_1112 te_368_1113 te_368_1115 te_368_1116 te_368_1117 (sc_in hS hi (by decide)) ?_
  refine Vx.go hC te_368_1118 ?_
  obtain ⟨gs8, gs8g⟩ := hL2.obj (A := 143) rfl
  have hcall9 := ref_call (S := S) (n := 24) (μ := 305) (args := [.inr 143, .inl ((S.2 (i + Int32.ofInt 1).toNatClampNeg) : Int32).toInt, .inl ((S.2 (i + Int32.ofInt 2).toNatClampNeg) : Int32).toInt, .inl ((S.2 (i + Int32.ofInt 3).toNatClampNeg) : Int32).toInt]) (h := h1) (fun v hv => by simp only [List.mem_cons, List.not_mem_nil, or_false] at hv; rcases hv with rfl | rfl | rfl | rfl <;> first | trivial | exact wiI _) hL2 (fun mem hr => f_305 hr (fun r m' a b => ⟨a, b⟩))
  simp only [List.map_cons, List.map_nil, wv, Int32.ofInt_toInt] at hcall9
  refine p_call_mk (av := [.ref 143, .int (S.2 (i + Int32.ofInt 1).toNatClampNeg), .int (S.2 (i + Int32.ofInt 2).toNatClampNeg), .int (S.2 (i + Int32.ofInt 3).toNatClampNeg)]) (rest := []) mt_305 rfl (by decide) (show (c + 5) + 0 ≤ 601024 by omega) (show (s + 30) + 0 ≤ 7293033 by omega) (fun _ => ⟨143, gs8, rfl, gs8g⟩) ?_
  refine hC _ _ _ _ _ ?_ hcall9
  rintro _ h5 ⟨hL6, r7, rfl⟩
  show Vx (Ex S 24) S M_368 [] Q1 1121 (px_s1 lv 5 (.int r3)) [.int r7] h5 (c + 5) (s + 30)
  refine Vx.go hC te_368_1121 ?_
  refine ⟨by decide, ?_⟩
  have hl10 := LwS.st (j := 6) (v := .int r7) (by omega) hl4
  show Vx (Ex S 24) S M_368 [] Q1 1123 (px_s1 (px_s1 lv 5 (.int r3)) 6 (.int r7)) [] h5 (c + 5) (s + 30)
  refine Vx.go hC te_368_1123 ?_
  refine ⟨by decide, ?_⟩
  exact Nx _ _ _ _ hl10 hL6 (by omega) (by omega)
theorem lc_22 {S : Nat × (Nat → Int32)} {lv : LV} {h : PH} {c s : Nat} {i : Int32} (hS : S.1 ≤ 3072) (hl : LwS lv i) (hi : 0 ≤ i.toInt ∧ i.toInt + 5 < S.1) (hL : LI h) (hc : c + 8 ≤ 601024) (hs : s + 48 ≤ 7293033) (Nx : ∀ lv' h' c' s', LwS lv' i → LI h' → c' ≤ c + 8 → s' ≤ s + 48 → Vx (Ex S 24) S M_368 [] Q1 2327 lv' [] h' c' s') : Vx (Ex S 24) S M_368 [] Q1 1126 lv [] h c s := by
  have hC := Ex.mono S 24
  refine Vx.go hC te_368_1126 ?_
  refine ⟨_, hl.2.1, ⟨0, Or.inl rfl⟩, ?_⟩
  refine sc_load hC (k := 1) hl te_368_1127 te_368_1128 te_368_1130 te_368_1131 te_368_1132 (sc_in hS hi (by decide)) ?_
  refine sc_load hC (k := 2) hl te_368_1133 te_368_1134 te_368_1136 te_368_1137 te_368_1138 (sc_in hS hi (by decide)) ?_
  refine Vx.go hC te_368_1139 ?_
  refine ⟨_, hl.2.2.2.1, ⟨173, Or.inl rfl⟩, ?_⟩
  refine Vx.go hC te_368_1140 ?_
  refine Or.inr ⟨by decide, ?_⟩
  refine p_call_mk (av := [.ref 0, .int (S.2 (i + Int32.ofInt 1).toNatClampNeg), .int (S.2 (i + Int32.ofInt 2).toNatClampNeg), .ref 173]) (rest := []) mt_147 rfl (by decide) (show c + 5 ≤ 601024 by omega) (show s + 30 ≤ 7293033 by omega) (fun q => by cases q) ?_
  refine g_147 (n := 6) hL (fun r3 h1 hL2 => ?_)
  show Vx (Ex S 24) S M_368 [] Q1 1143 lv [.int r3] h1 (c + 5) (s + 30)
  refine Vx.go hC te_368_1143 ?_
  refine ⟨by decide, ?_⟩
  have hl4 := LwS.st (j := 5) (v := .int r3) (by omega) hl
  show Vx (Ex S 24) S M_368 [] Q1 1145 (px_s1 lv 5 (.int r3)) [] h1 (c + 5) (s + 30)
  refine Vx.go hC te_368_1145 ?_
  refine ⟨_, hl4.2.2.1, ⟨143, Or.inl rfl⟩, ?_⟩
  refine sc_load hC (k := 1) hl4 te_368_1146 te_368_1147 te_368_1149 te_368_1150 te_368_1151 (sc_in hS hi (by decide)) ?_
  refine sc_load hC (k := 2) hl4 te_368_1152 te_368_1153 te_368_1155 te_368_1156 te_368_1157 (sc_in hS hi (by decide)) ?_
  refine Vx.go hC te_368_1158 ?_
  obtain ⟨gs8, gs8g⟩ := hL2.obj (A := 143) rfl
  have hcall9 := ref_call (S := S) (n := 24) (μ := 307) (args := [.inr 143, .inl ((S.2 (i + Int32.ofInt 1).toNatClampNeg) : Int32).toInt, .inl ((S.2 (i + Int32.ofInt 2).toNatClampNeg) : Int32).toInt]) (h := h1) (fun v hv => by simp only [List.mem_cons, List.not_mem_nil, or_false] at hv; rcases hv with rfl | rfl | rfl <;> first | trivial | exact wiI _) hL2 (fun mem hr => f_307 hr (fun r m' a b => ⟨a, b⟩))
  simp only [List.map_cons, List.map_nil, wv, Int32.ofInt_toInt] at hcall9
  refine p_call_mk (av := [.ref 143, .int (S.2 (i + Int32.ofInt 1).toNatClampNeg), .int (S.2 (i + Int32.ofInt 2).toNatClampNeg)]) (rest := []) mt_307 rfl (by decide) (show (c + 5) + 0 ≤ 601024 by omega) (show (s + 30) + 0 ≤ 7293033 by omega) (fun _ => ⟨143, gs8, rfl, gs8g⟩) ?_
  refine hC _ _ _ _ _ ?_ hcall9
  rintro _ h5 ⟨hL6, r7, rfl⟩
  show Vx (Ex S 24) S M_368 [] Q1 1161 (px_s1 lv 5 (.int r3)) [.int r7] h5 (c + 5) (s + 30)
  refine Vx.go hC te_368_1161 ?_
  refine ⟨by decide, ?_⟩
  have hl10 := LwS.st (j := 6) (v := .int r7) (by omega) hl4
  show Vx (Ex S 24) S M_368 [] Q1 1163 (px_s1 (px_s1 lv 5 (.int r3)) 6 (.int r7)) [] h5 (c + 5) (s + 30)
  refine Vx.go hC te_368_1163 ?_
  refine ⟨by decide, ?_⟩
  exact Nx _ _ _ _ hl10 hL6 (by omega) (by omega)
theorem lc_23 {S : Nat × (Nat → Int32)} {lv : LV} {h : PH} {c s : Nat} {i : Int32} (hS : S.1 ≤ 3072) (hl : LwS lv i) (hi : 0 ≤ i.toInt ∧ i.toInt + 5 < S.1) (hL : LI h) (hc : c + 8 ≤ 601024) (hs : s + 48 ≤ 7293033) (Nx : ∀ lv' h' c' s', LwS lv' i → LI h' → c' ≤ c + 8 → s' ≤ s + 48 → Vx (Ex S 24) S M_368 [] Q1 2327 lv' [] h' c' s') : Vx (Ex S 24) S M_368 [] Q1 1166 lv [] h c s := by
  have hC := Ex.mono S 24
  refine Vx.go hC te_368_1166 ?_
  refine ⟨_, hl.2.1, ⟨0, Or.inl rfl⟩, ?_⟩
  refine sc_load hC (k := 1) hl te_368_1167 te_368_1168 te_368_1170 te_368_1171 te_368_1172 (sc_in hS hi (by decide)) ?_
  refine sc_load hC (k := 2) hl te_368_1173 te_368_1174 te_368_1176 te_368_1177 te_368_1178 (sc_in hS hi (by decide)) ?_
  refine sc_load hC (k := 3) hl te_368_1179 te_368_1180 te_368_1182 te_368_1183 te_368_1184 (sc_in hS hi (by decide)) ?_
  refine sc_load hC (k := 4) hl te_368_1185 te_368_1186 te_368_1188 te_368_1189 te_368_1190 (sc_in hS hi (by decide)) ?_
  refine Vx.go hC te_368_1191 ?_
  refine ⟨_, hl.2.2.2.1, ⟨173, Or.inl rfl⟩, ?_⟩
  refine Vx.go hC te_368_1192 ?_
  refine Or.inr ⟨by decide, ?_⟩
  refine p_call_mk (av := [.ref 0, .int (S.2 (i + Int32.ofInt 1).toNatClampNeg), .int (S.2 (i + Int32.ofInt 2).toNatClampNeg), .int (S.2 (i + Int32.ofInt 3).toNatClampNeg), .int (S.2 (i + Int32.ofInt 4).toNatClampNeg), .ref 173]) (rest := []) mt_149 rfl (by decide) (show c + 7 ≤ 601024 by omega) (show s + 42 ≤ 7293033 by omega) (fun q => by cases q) ?_
  refine g_149 (n := 6) hL (fun r3 h1 hL2 => ?_)
  show Vx (Ex S 24) S M_368 [] Q1 1195 lv [.int r3] h1 (c + 7) (s + 42)
  refine Vx.go hC te_368_1195 ?_
  refine ⟨by decide, ?_⟩
  have hl4 := LwS.st (j := 5) (v := .int r3) (by omega) hl
  show Vx (Ex S 24) S M_368 [] Q1 1197 (px_s1 lv 5 (.int r3)) [] h1 (c + 7) (s + 42)
  refine Vx.go hC te_368_1197 ?_
  refine ⟨_, hl4.2.2.1, ⟨143, Or.inl rfl⟩, ?_⟩
  refine sc_load hC (k := 1) hl4 te_368_1198 te_368_1199 te_368_1201 te_368_1202 te_368_1203 (sc_in hS hi (by decide)) ?_
  refine sc_load hC (k := 2) hl4 te_368_1204 te_368_1205 te_368_1207 te_368_1208 te_368_1209 (sc_in hS hi (by decide)) ?_
  refine sc_load hC (k := 3) hl4 te_368_1210 te_368_1211 te_368_1213 te_368_1214 te_368_1215 (sc_in hS hi (by decide)) ?_
  refine sc_load hC (k := 4) hl4 te_368_1216 te_368_1217 te_368_1219 te_368_1220 te_368_1221 (sc_in hS hi (by decide)) ?_
  refine Vx.go hC te_368_1222 ?_
  obtain ⟨gs8, gs8g⟩ := hL2.obj (A := 143) rfl
  have hcall9 := ref_call (S := S) (n := 24) (μ := 308) (args := [.inr 143, .inl ((S.2 (i + Int32.ofInt 1).toNatClampNeg) : Int32).toInt, .inl ((S.2 (i + Int32.ofInt 2).toNatClampNeg) : Int32).toInt, .inl ((S.2 (i + Int32.ofInt 3).toNatClampNeg) : Int32).toInt, .inl ((S.2 (i + Int32.ofInt 4).toNatClampNeg) : Int32).toInt]) (h := h1) (fun v hv => by simp only [List.mem_cons, List.not_mem_nil, or_false] at hv; rcases hv with rfl | rfl | rfl | rfl | rfl <;> first | trivial | exact wiI _) hL2 (fun mem hr => f_308 (wiI _) hr (fun r m' a b => ⟨a, b⟩))
  simp only [List.map_cons, List.map_nil, wv, Int32.ofInt_toInt] at hcall9
  refine p_call_mk (av := [.ref 143, .int (S.2 (i + Int32.ofInt 1).toNatClampNeg), .int (S.2 (i + Int32.ofInt 2).toNatClampNeg), .int (S.2 (i + Int32.ofInt 3).toNatClampNeg), .int (S.2 (i + Int32.ofInt 4).toNatClampNeg)]) (rest := []) mt_308 rfl (by decide) (show (c + 7) + 0 ≤ 601024 by omega) (show (s + 42) + 0 ≤ 7293033 by omega) (fun _ => ⟨143, gs8, rfl, gs8g⟩) ?_
  refine hC _ _ _ _ _ ?_ hcall9
  rintro _ h5 ⟨hL6, r7, rfl⟩
  show Vx (Ex S 24) S M_368 [] Q1 1225 (px_s1 lv 5 (.int r3)) [.int r7] h5 (c + 7) (s + 42)
  refine Vx.go hC te_368_1225 ?_
  refine ⟨by decide, ?_⟩
  have hl10 := LwS.st (j := 6) (v := .int r7) (by omega) hl4
  show Vx (Ex S 24) S M_368 [] Q1 1227 (px_s1 (px_s1 lv 5 (.int r3)) 6 (.int r7)) [] h5 (c + 7) (s + 42)
  refine Vx.go hC te_368_1227 ?_
  refine ⟨by decide, ?_⟩
  exact Nx _ _ _ _ hl10 hL6 (by omega) (by omega)
theorem lc_24 {S : Nat × (Nat → Int32)} {lv : LV} {h : PH} {c s : Nat} {i : Int32} (hS : S.1 ≤ 3072) (hl : LwS lv i) (hi : 0 ≤ i.toInt ∧ i.toInt + 5 < S.1) (hL : LI h) (hc : c + 8 ≤ 601024) (hs : s + 48 ≤ 7293033) (Nx : ∀ lv' h' c' s', LwS lv' i → LI h' → c' ≤ c + 8 → s' ≤ s + 48 → Vx (Ex S 24) S M_368 [] Q1 2327 lv' [] h' c' s') : Vx (Ex S 24) S M_368 [] Q1 1230 lv [] h c s := by
  have hC := Ex.mono S 24
  refine Vx.go hC te_368_1230 ?_
  refine ⟨_, hl.2.1, ⟨0, Or.inl rfl⟩, ?_⟩
  refine sc_load hC (k := 1) hl te_368_1231 te_368_1232 te_368_1234 te_368_1235 te_368_1236 (sc_in hS hi (by decide)) ?_
  refine sc_load hC (k := 2) hl te_368_1237 te_368_1238 te_368_1240 te_368_1241 te_368_1242 (sc_in hS hi (by decide)) ?_
  refine sc_load hC (k := 3) hl te_368_1243 te_368_1244 te_368_1246 te_368_1247 te_368_1248 (sc_in hS hi (by decide)) ?_
  refine Vx.go hC te_368_1249 ?_
  refine ⟨_, hl.2.2.2.1, ⟨173, Or.inl rfl⟩, ?_⟩
  refine Vx.go hC te_368_1250 ?_
  refine Or.inr ⟨by decide, ?_⟩
  refine p_call_mk (av := [.ref 0, .int (S.2 (i + Int32.ofInt 1).toNatClampNeg), .int (S.2 (i + Int32.ofInt 2).toNatClampNeg), .int (S.2 (i + Int32.ofInt 3).toNatClampNeg), .ref 173]) (rest := []) mt_153 rfl (by decide) (show c + 6 ≤ 601024 by omega) (show s + 36 ≤ 7293033 by omega) (fun q => by cases q) ?_
  refine g_153 (n := 6) hL (fun r3 h1 hL2 => ?_)
  show Vx (Ex S 24) S M_368 [] Q1 1253 lv [.int r3] h1 (c + 6) (s + 36)
  refine Vx.go hC te_368_1253 ?_
  refine ⟨by decide, ?_⟩
  have hl4 := LwS.st (j := 5) (v := .int r3) (by omega) hl
  show Vx (Ex S 24) S M_368 [] Q1 1255 (px_s1 lv 5 (.int r3)) [] h1 (c + 6) (s + 36)
  refine Vx.go hC te_368_1255 ?_
  refine ⟨_, hl4.2.2.1, ⟨143, Or.inl rfl⟩, ?_⟩
  refine sc_load hC (k := 1) hl4 te_368_1256 te_368_1257 te_368_1259 te_368_1260 te_368_1261 (sc_in hS hi (by decide)) ?_
  refine sc_load hC (k := 2) hl4 te_368_1262 te_368_1263 te_368_1265 te_368_1266 te_368_1267 (sc_in hS hi (by decide)) ?_
  refine sc_load hC (k := 3) hl4 te_368_1268 te_368_1269 te_368_1271 te_368_1272 te_368_1273 (sc_in hS hi (by decide)) ?_
  refine Vx.go hC te_368_1274 ?_
  obtain ⟨gs8, gs8g⟩ := hL2.obj (A := 143) rfl
  have hcall9 := ref_call (S := S) (n := 24) (μ := 310) (args := [.inr 143, .inl ((S.2 (i + Int32.ofInt 1).toNatClampNeg) : Int32).toInt, .inl ((S.2 (i + Int32.ofInt 2).toNatClampNeg) : Int32).toInt, .inl ((S.2 (i + Int32.ofInt 3).toNatClampNeg) : Int32).toInt]) (h := h1) (fun v hv => by simp only [List.mem_cons, List.not_mem_nil, or_false] at hv; rcases hv with rfl | rfl | rfl | rfl <;> first | trivial | exact wiI _) hL2 (fun mem hr => f_310 hr (fun r m' a b => ⟨a, b⟩))
  simp only [List.map_cons, List.map_nil, wv, Int32.ofInt_toInt] at hcall9
  refine p_call_mk (av := [.ref 143, .int (S.2 (i + Int32.ofInt 1).toNatClampNeg), .int (S.2 (i + Int32.ofInt 2).toNatClampNeg), .int (S.2 (i + Int32.ofInt 3).toNatClampNeg)]) (rest := []) mt_310 rfl (by decide) (show (c + 6) + 0 ≤ 601024 by omega) (show (s + 36) + 0 ≤ 7293033 by omega) (fun _ => ⟨143, gs8, rfl, gs8g⟩) ?_
  refine hC _ _ _ _ _ ?_ hcall9
  rintro _ h5 ⟨hL6, r7, rfl⟩
  show Vx (Ex S 24) S M_368 [] Q1 1277 (px_s1 lv 5 (.int r3)) [.int r7] h5 (c + 6) (s + 36)
  refine Vx.go hC te_368_1277 ?_
  refine ⟨by decide, ?_⟩
  have hl10 := LwS.st (j := 6) (v := .int r7) (by omega) hl4
  show Vx (Ex S 24) S M_368 [] Q1 1279 (px_s1 (px_s1 lv 5 (.int r3)) 6 (.int r7)) [] h5 (c + 6) (s + 36)
  refine Vx.go hC te_368_1279 ?_
  refine ⟨by decide, ?_⟩
  exact Nx _ _ _ _ hl10 hL6 (by omega) (by omega)
theorem lc_25 {S : Nat × (Nat → Int32)} {lv : LV} {h : PH} {c s : Nat} {i : Int32} (hS : S.1 ≤ 3072) (hl : LwS lv i) (hi : 0 ≤ i.toInt ∧ i.toInt + 5 < S.1) (hL : LI h) (hc : c + 8 ≤ 601024) (hs : s + 48 ≤ 7293033) (Nx : ∀ lv' h' c' s', LwS lv' i → LI h' → c' ≤ c + 8 → s' ≤ s + 48 → Vx (Ex S 24) S M_368 [] Q1 2327 lv' [] h' c' s') : Vx (Ex S 24) S M_368 [] Q1 1282 lv [] h c s := by
  have hC := Ex.mono S 24
  refine Vx.go hC te_368_1282 ?_
  refine ⟨_, hl.2.1, ⟨0, Or.inl rfl⟩, ?_⟩
  refine sc_load hC (k := 1) hl te_368_1283 te_368_1284 te_368_1286 te_368_1287 te_368_1288 (sc_in hS hi (by decide)) ?_
  refine sc_load hC (k := 2) hl te_368_1289 te_368_1290 te_368_1292 te_368_1293 te_368_1294 (sc_in hS hi (by decide)) ?_
  refine sc_load hC (k := 3) hl te_368_1295 te_368_1296 te_368_1298 te_368_1299 te_368_1300 (sc_in hS hi (by decide)) ?_
  refine sc_load hC (k := 4) hl te_368_1301 te_368_1302 te_368_1304 te_368_1305 te_368_1306 (sc_in hS hi (by decide)) ?_
  refine Vx.go hC te_368_1307 ?_
  refine ⟨_, hl.2.2.2.1, ⟨173, Or.inl rfl⟩, ?_⟩
  refine Vx.go hC te_368_1308 ?_
  refine Or.inr ⟨by decide, ?_⟩
  refine p_call_mk (av := [.ref 0, .int (S.2 (i + Int32.ofInt 1).toNatClampNeg), .int (S.2 (i + Int32.ofInt 2).toNatClampNeg), .int (S.2 (i + Int32.ofInt 3).toNatClampNeg), .int (S.2 (i + Int32.ofInt 4).toNatClampNeg), .ref 173]) (rest := []) mt_158 rfl (by decide) (show c + 6 ≤ 601024 by omega) (show s + 36 ≤ 7293033 by omega) (fun q => by cases q) ?_
  refine g_158 (n := 6) hL (fun r3 h1 hL2 => ?_)
  show Vx (Ex S 24) S M_368 [] Q1 1311 lv [.int r3] h1 (c + 6) (s + 36)
  refine Vx.go hC te_368_1311 ?_
  refine ⟨by decide, ?_⟩
  have hl4 := LwS.st (j := 5) (v := .int r3) (by omega) hl
  show Vx (Ex S 24) S M_368 [] Q1 1313 (px_s1 lv 5 (.int r3)) [] h1 (c + 6) (s + 36)
  refine Vx.go hC te_368_1313 ?_
  refine ⟨_, hl4.2.2.1, ⟨143, Or.inl rfl⟩, ?_⟩
  refine sc_load hC (k := 1) hl4 te_368_1314 te_368_1315 te_368_1317 te_368_1318 te_368_1319 (sc_in hS hi (by decide)) ?_
  refine sc_load hC (k := 2) hl4 te_368_1320 te_368_1321 te_368_1323 te_368_1324 te_368_1325 (sc_in hS hi (by decide)) ?_
  refine sc_load hC (k := 3) hl4 te_368_1326 te_368_1327 te_368_1329 te_368_1330 te_368_1331 (sc_in hS hi (by decide)) ?_
  refine sc_load hC (k := 4) hl4 te_368_1332 te_368_1333 te_368_1335 te_368_1336 te_368_1337 (sc_in hS hi (by decide)) ?_
  refine Vx.go hC te_368_1338 ?_
  obtain ⟨gs8, gs8g⟩ := hL2.obj (A := 143) rfl
  have hcall9 := ref_call (S := S) (n := 24) (μ := 315) (args := [.inr 143, .inl ((S.2 (i + Int32.ofInt 1).toNatClampNeg) : Int32).toInt, .inl ((S.2 (i + Int32.ofInt 2).toNatClampNeg) : Int32).toInt, .inl ((S.2 (i + Int32.ofInt 3).toNatClampNeg) : Int32).toInt, .inl ((S.2 (i + Int32.ofInt 4).toNatClampNeg) : Int32).toInt]) (h := h1) (fun v hv => by simp only [List.mem_cons, List.not_mem_nil, or_false] at hv; rcases hv with rfl | rfl | rfl | rfl | rfl <;> first | trivial | exact wiI _) hL2 (fun mem hr => f_315 hr (fun r m' a b => ⟨a, b⟩))
  simp only [List.map_cons, List.map_nil, wv, Int32.ofInt_toInt] at hcall9
  refine p_call_mk (av := [.ref 143, .int (S.2 (i + Int32.ofInt 1).toNatClampNeg), .int (S.2 (i + Int32.ofInt 2).toNatClampNeg), .int (S.2 (i + Int32.ofInt 3).toNatClampNeg), .int (S.2 (i + Int32.ofInt 4).toNatClampNeg)]) (rest := []) mt_315 rfl (by decide) (show (c + 6) + 0 ≤ 601024 by omega) (show (s + 36) + 0 ≤ 7293033 by omega) (fun _ => ⟨143, gs8, rfl, gs8g⟩) ?_
  refine hC _ _ _ _ _ ?_ hcall9
  rintro _ h5 ⟨hL6, r7, rfl⟩
  show Vx (Ex S 24) S M_368 [] Q1 1341 (px_s1 lv 5 (.int r3)) [.int r7] h5 (c + 6) (s + 36)
  refine Vx.go hC te_368_1341 ?_
  refine ⟨by decide, ?_⟩
  have hl10 := LwS.st (j := 6) (v := .int r7) (by omega) hl4
  show Vx (Ex S 24) S M_368 [] Q1 1343 (px_s1 (px_s1 lv 5 (.int r3)) 6 (.int r7)) [] h5 (c + 6) (s + 36)
  refine Vx.go hC te_368_1343 ?_
  refine ⟨by decide, ?_⟩
  exact Nx _ _ _ _ hl10 hL6 (by omega) (by omega)
theorem lc_26 {S : Nat × (Nat → Int32)} {lv : LV} {h : PH} {c s : Nat} {i : Int32} (hS : S.1 ≤ 3072) (hl : LwS lv i) (hi : 0 ≤ i.toInt ∧ i.toInt + 5 < S.1) (hL : LI h) (hc : c + 8 ≤ 601024) (hs : s + 48 ≤ 7293033) (Nx : ∀ lv' h' c' s', LwS lv' i → LI h' → c' ≤ c + 8 → s' ≤ s + 48 → Vx (Ex S 24) S M_368 [] Q1 2327 lv' [] h' c' s') : Vx (Ex S 24) S M_368 [] Q1 1346 lv [] h c s := by
  have hC := Ex.mono S 24
  refine Vx.go hC te_368_1346 ?_
  refine ⟨_, hl.2.1, ⟨0, Or.inl rfl⟩, ?_⟩
  refine sc_load hC (k := 1) hl te_368_1347 te_368_1348 te_368_1350 te_368_1351 te_368_1352 (sc_in hS hi (by decide)) ?_
  refine sc_load hC (k := 2) hl te_368_1353 te_368_1354 te_368_1356 te_368_1357 te_368_1358 (sc_in hS hi (by decide)) ?_
  refine sc_load hC (k := 3) hl te_368_1359 te_368_1360 te_368_1362 te_368_1363 te_368_1364 (sc_in hS hi (by decide)) ?_
  refine Vx.go hC te_368_1365 ?_
  refine ⟨_, hl.2.2.2.1, ⟨173, Or.inl rfl⟩, ?_⟩
  refine Vx.go hC te_368_1366 ?_
  refine Or.inr ⟨by decide, ?_⟩
  refine p_call_mk (av := [.ref 0, .int (S.2 (i + Int32.ofInt 1).toNatClampNeg), .int (S.2 (i + Int32.ofInt 2).toNatClampNeg), .int (S.2 (i + Int32.ofInt 3).toNatClampNeg), .ref 173]) (rest := []) mt_165 rfl (by decide) (show c + 7 ≤ 601024 by omega) (show s + 42 ≤ 7293033 by omega) (fun q => by cases q) ?_
  refine g_165 (n := 6) hL (fun r3 h1 hL2 => ?_)
  show Vx (Ex S 24) S M_368 [] Q1 1369 lv [.int r3] h1 (c + 7) (s + 42)
  refine Vx.go hC te_368_1369 ?_
  refine ⟨by decide, ?_⟩
  have hl4 := LwS.st (j := 5) (v := .int r3) (by omega) hl
  show Vx (Ex S 24) S M_368 [] Q1 1371 (px_s1 lv 5 (.int r3)) [] h1 (c + 7) (s + 42)
  refine Vx.go hC te_368_1371 ?_
  refine ⟨_, hl4.2.2.1, ⟨143, Or.inl rfl⟩, ?_⟩
  refine sc_load hC (k := 1) hl4 te_368_1372 te_368_1373 te_368_1375 te_368_1376 te_368_1377 (sc_in hS hi (by decide)) ?_
  refine sc_load hC (k := 2) hl4 te_368_1378 te_368_1379 te_368_1381 te_368_1382 te_368_1383 (sc_in hS hi (by decide)) ?_
  refine sc_load hC (k := 3) hl4 te_368_1384 te_368_1385 te_368_1387 te_368_1388 te_368_1389 (sc_in hS hi (by decide)) ?_
  refine Vx.go hC te_368_1390 ?_
  obtain ⟨gs8, gs8g⟩ := hL2.obj (A := 143) rfl
  have hcall9 := ref_call (S := S) (n := 24) (μ := 325) (args := [.inr 143, .inl ((S.2 (i + Int32.ofInt 1).toNatClampNeg) : Int32).toInt, .inl ((S.2 (i + Int32.ofInt 2).toNatClampNeg) : Int32).toInt, .inl ((S.2 (i + Int32.ofInt 3).toNatClampNeg) : Int32).toInt]) (h := h1) (fun v hv => by simp only [List.mem_cons, List.not_mem_nil, or_false] at hv; rcases hv with rfl | rfl | rfl | rfl <;> first | trivial | exact wiI _) hL2 (fun mem hr => f_325 hr (fun r m' a b => ⟨a, b⟩))
  simp only [List.map_cons, List.map_nil, wv, Int32.ofInt_toInt] at hcall9
  refine p_call_mk (av := [.ref 143, .int (S.2 (i + Int32.ofInt 1).toNatClampNeg), .int (S.2 (i + Int32.ofInt 2).toNatClampNeg), .int (S.2 (i + Int32.ofInt 3).toNatClampNeg)]) (rest := []) mt_325 rfl (by decide) (show (c + 7) + 0 ≤ 601024 by omega) (show (s + 42) + 0 ≤ 7293033 by omega) (fun _ => ⟨143, gs8, rfl, gs8g⟩) ?_
  refine hC _ _ _ _ _ ?_ hcall9
  rintro _ h5 ⟨hL6, r7, rfl⟩
  show Vx (Ex S 24) S M_368 [] Q1 1393 (px_s1 lv 5 (.int r3)) [.int r7] h5 (c + 7) (s + 42)
  refine Vx.go hC te_368_1393 ?_
  refine ⟨by decide, ?_⟩
  have hl10 := LwS.st (j := 6) (v := .int r7) (by omega) hl4
  show Vx (Ex S 24) S M_368 [] Q1 1395 (px_s1 (px_s1 lv 5 (.int r3)) 6 (.int r7)) [] h5 (c + 7) (s + 42)
  refine Vx.go hC te_368_1395 ?_
  refine ⟨by decide, ?_⟩
  exact Nx _ _ _ _ hl10 hL6 (by omega) (by omega)
