def am_dbN : MethodName := ⟨"java/lang/Double", "doubleToLongBits", "(D)J"⟩
def am_fbN : MethodName := ⟨"java/lang/Float", "floatToIntBits", "(F)I"⟩
def am_slN : MethodName := ⟨"java/lang/String", "length", "()I"⟩
def am_scN : MethodName := ⟨"java/lang/String", "charAt", "(I)C"⟩
def am_mlw (q : Nat × Nat × Nat × Nat) (i : Nat) : Bool := decide (q.1 < 11) && (match q.2.2.1 with
  | 0 => am_at i (.methodLink (am_cR q.1) q.2.1 (am_y q.2.2.2)) && am_ks q.2.2.2 == 1 && decide (am_zk q.2.2.2) && am_tr q.2.2.2
  | 1 => am_at i (.methodLink (am_cR q.1) q.2.1 (am_y q.2.2.2)) && am_ks q.2.2.2 == 0 && decide (am_zk q.2.2.2)
  | 2 => am_at i (.methodLink (am_cR q.1) q.2.1 (am_y q.2.2.2)) && am_ks q.2.2.2 == 2 && decide (am_zk q.2.2.2) && am_tr q.2.2.2
  | 3 => am_at i (.methodLinkNest (am_cR q.1) q.2.1 (am_y q.2.2.2) "BellTelegraph") && am_ks q.2.2.2 == 2 && decide (am_zk q.2.2.2) && am_tr q.2.2.2
  | 4 => am_at i (.methodLinkNest (am_cR q.1) q.2.1 (am_y q.2.2.2) "BellTelegraph") && am_ks q.2.2.2 == 0 && decide (am_zk q.2.2.2) && am_tr q.2.2.2
  | 5 => am_at i (.methodLink (am_cR q.1) q.2.1 objectInit)
  | 6 => am_at i (.methodLink (am_cR q.1) q.2.1 Lib.Math.min.name)
  | 7 => am_at i (.methodLink (am_cR q.1) q.2.1 arraycopyName)
  | 8 => am_at i (.methodLink (am_cR q.1) q.2.1 am_dbN)
  | 9 => am_at i (.methodLink (am_cR q.1) q.2.1 am_fbN)
  | 10 => am_at i (.methodLink (am_cR q.1) q.2.1 am_slN)
  | 11 => am_at i (.methodLink (am_cR q.1) q.2.1 am_scN)
  | _ => false)
theorem am_ml_ok : am_al2 am_mlw am_ml_t [259, 282, 285, 847, 863, 851, 855, 872, 880, 884, 859, 867, 871, 876, 67, 360, 221, 224, 126, 457, 368, 56, 64, 109, 123, 356, 363, 364, 399, 414, 421, 432, 440, 444, 465, 477, 403, 406, 410, 418, 425, 429, 436, 448, 453, 461, 469, 473, 481, 485, 489, 493, 497, 501, 509, 526, 530, 538, 513, 517, 521, 525, 534, 542, 505, 804, 808, 241, 112, 48, 53, 218, 238, 256, 279, 383, 387, 391, 352, 395, 613, 679, 699, 700, 1110, 1130, 769, 773, 967, 1122, 683, 1114, 723, 728, 781, 785, 727, 800, 914, 832, 843, 988, 992, 926, 930, 934, 938, 949, 379, 620, 1064, 1057, 1152, 627, 1159, 634, 675, 1106, 1126, 719, 1134, 1141, 736, 758, 765, 1118, 777, 789, 796, 813, 839, 974, 984, 1009, 1088, 905, 922, 945, 956, 963, 996, 1013, 809, 836, 971, 981, 1006, 369, 372, 375, 617, 1054, 1061, 888, 1075, 1085, 1093, 919, 638, 732, 762, 960, 1103, 1115, 1123, 716, 1131, 1138, 793, 755, 774, 786, 340, 1145, 1149, 1068, 624, 1156, 631, 1386, 1071, 968, 344, 45, 942, 953, 348, 978, 1051, 1389, 1146, 1394] = true := by decide +kernel
theorem am_kc_ok : am_al2 (fun (q : Nat × Nat × Int32) i => am_at i (.constant (am_cR q.1) q.2.1 q.2.2)) am_kc_t [452, 1395] = true := by decide +kernel
theorem am_kl_ok : am_al2 (fun (q : Nat × Nat × Int64) i => am_at i (.constantLong (am_cR q.1) q.2.1 q.2.2)) am_kl_t [1074] = true := by decide +kernel
theorem am_kf_ok : am_al2 (fun (q : Nat × Nat × UInt32) i => am_at i (.constantFloat (am_cR q.1) q.2.1 q.2.2)) am_kf_t [1092] = true := by decide +kernel
theorem am_kd2_ok : am_al2 (fun (q : Nat × Nat × UInt64) i => am_at i (.constantDouble (am_cR q.1) q.2.1 q.2.2)) am_kd2_t [918, 1397] = true := by decide +kernel
