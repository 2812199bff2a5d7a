set_option maxRecDepth 100000 in
theorem WS_at_552 : (WS.drop 552).take 12 = ([772, 773, 774, 775, 776, 777, 779, 780, 781, 782, 783, 784] : List Nat).filterMap (fun i => lw_tbl[i]?) := by decide +kernel
set_option maxRecDepth 100000 in
theorem WS_at_564 : (WS.drop 564).take 12 = ([785, 786, 787, 788, 789, 790, 791, 792, 793, 794, 795, 797] : List Nat).filterMap (fun i => lw_tbl[i]?) := by decide +kernel
set_option maxRecDepth 100000 in
theorem WS_at_576 : (WS.drop 576).take 12 = ([798, 799, 800, 801, 802, 803, 804, 806, 807, 808, 809, 810] : List Nat).filterMap (fun i => lw_tbl[i]?) := by decide +kernel
set_option maxRecDepth 100000 in
theorem WS_at_588 : (WS.drop 588).take 12 = ([811, 812, 813, 814, 815, 816, 818, 819, 820, 822, 823, 824] : List Nat).filterMap (fun i => lw_tbl[i]?) := by decide +kernel
set_option maxRecDepth 100000 in
theorem WS_at_600 : (WS.drop 600).take 12 = ([825, 826, 827, 828, 829, 830, 831, 832, 833, 834, 835, 836] : List Nat).filterMap (fun i => lw_tbl[i]?) := by decide +kernel
set_option maxRecDepth 100000 in
theorem WS_at_612 : (WS.drop 612).take 12 = ([837, 838, 839, 840, 841, 842, 843, 845, 846, 847, 848, 849] : List Nat).filterMap (fun i => lw_tbl[i]?) := by decide +kernel
set_option maxRecDepth 100000 in
theorem WS_at_624 : (WS.drop 624).take 12 = ([850, 851, 852, 854, 855, 858, 860, 861, 862, 863, 864, 865] : List Nat).filterMap (fun i => lw_tbl[i]?) := by decide +kernel
set_option maxRecDepth 100000 in
theorem WS_at_636 : (WS.drop 636).take 12 = ([866, 867, 869, 870, 871, 872, 873, 874, 875, 876, 877, 878] : List Nat).filterMap (fun i => lw_tbl[i]?) := by decide +kernel
set_option maxRecDepth 100000 in
theorem WS_at_648 : (WS.drop 648).take 12 = ([879, 880, 881, 882, 883, 884, 885, 886, 887, 888, 889, 890] : List Nat).filterMap (fun i => lw_tbl[i]?) := by decide +kernel
set_option maxRecDepth 100000 in
theorem WS_at_660 : (WS.drop 660).take 12 = ([891, 892, 893, 894, 895, 896, 897, 898, 899, 900, 901, 902] : List Nat).filterMap (fun i => lw_tbl[i]?) := by decide +kernel
set_option maxRecDepth 100000 in
theorem WS_at_672 : (WS.drop 672).take 12 = ([903, 904, 905, 906, 907, 908, 909, 910, 911, 912, 913, 914] : List Nat).filterMap (fun i => lw_tbl[i]?) := by decide +kernel
set_option maxRecDepth 100000 in
theorem WS_at_684 : (WS.drop 684).take 12 = ([915, 916, 917, 918, 919, 920, 921, 922, 923, 924, 925, 926] : List Nat).filterMap (fun i => lw_tbl[i]?) := by decide +kernel
set_option maxRecDepth 100000 in
theorem WS_at_696 : (WS.drop 696).take 12 = ([927, 928, 929, 930, 931, 932, 933, 934, 935, 936, 937, 938] : List Nat).filterMap (fun i => lw_tbl[i]?) := by decide +kernel
set_option maxRecDepth 100000 in
theorem WS_at_708 : (WS.drop 708).take 12 = ([939, 940, 941, 942, 943, 944, 945, 947, 949, 951, 953, 955] : List Nat).filterMap (fun i => lw_tbl[i]?) := by decide +kernel
set_option maxRecDepth 100000 in
theorem WS_at_720 : (WS.drop 720).take 12 = ([957, 959, 961, 963, 965, 967, 969, 971, 973, 975, 977, 979] : List Nat).filterMap (fun i => lw_tbl[i]?) := by decide +kernel
set_option maxRecDepth 100000 in
theorem WS_at_732 : (WS.drop 732).take 12 = ([981, 983, 985, 987, 989, 991, 993, 995, 997, 999, 1001, 1003] : List Nat).filterMap (fun i => lw_tbl[i]?) := by decide +kernel
set_option maxRecDepth 100000 in
theorem WS_at_744 : (WS.drop 744).take 12 = ([1005, 1008, 1009, 1010, 1011, 1012, 1013, 1014, 1015, 1016, 1017, 1018] : List Nat).filterMap (fun i => lw_tbl[i]?) := by decide +kernel
set_option maxRecDepth 100000 in
theorem WS_at_756 : (WS.drop 756).take 12 = ([1019, 1020, 1021, 1022, 1023, 1024, 1025, 1027, 1028, 1029, 1030, 1031] : List Nat).filterMap (fun i => lw_tbl[i]?) := by decide +kernel
set_option maxRecDepth 100000 in
theorem WS_at_768 : (WS.drop 768).take 12 = ([1032, 1033, 1034, 1035, 1036, 1037, 1038, 1039, 1040, 1041, 1043, 1044] : List Nat).filterMap (fun i => lw_tbl[i]?) := by decide +kernel
set_option maxRecDepth 100000 in
theorem WS_at_780 : (WS.drop 780).take 12 = ([1045, 1047, 1048, 1049, 1051, 1052, 1053, 1054, 1055, 1056, 1057, 1058] : List Nat).filterMap (fun i => lw_tbl[i]?) := by decide +kernel
set_option maxRecDepth 100000 in
theorem WS_at_792 : (WS.drop 792).take 12 = ([1059, 1060, 1061, 1062, 1063, 1064, 1065, 1066, 1067, 1068, 1070, 1071] : List Nat).filterMap (fun i => lw_tbl[i]?) := by decide +kernel
set_option maxRecDepth 100000 in
theorem WS_at_804 : (WS.drop 804).take 12 = ([1072, 1074, 1075, 1076, 1078, 1079, 1080, 1082, 1083, 1084, 1086, 1087] : List Nat).filterMap (fun i => lw_tbl[i]?) := by decide +kernel
set_option maxRecDepth 100000 in
theorem WS_at_816 : (WS.drop 816).take 12 = ([1088, 1090, 1091, 1092, 1094, 1095, 1096, 1097, 1098, 1099, 1100, 1101] : List Nat).filterMap (fun i => lw_tbl[i]?) := by decide +kernel
