set_option maxRecDepth 100000 in
theorem WS_at_0 : (WS.drop 0).take 12 = ([63, 64, 65, 66, 67, 68, 69, 70, 71, 72, 73, 74] : List Nat).filterMap (fun i => lw_tbl[i]?) := by decide +kernel
set_option maxRecDepth 100000 in
theorem WS_at_12 : (WS.drop 12).take 12 = ([75, 76, 77, 78, 79, 80, 81, 82, 83, 84, 85, 86] : List Nat).filterMap (fun i => lw_tbl[i]?) := by decide +kernel
set_option maxRecDepth 100000 in
theorem WS_at_24 : (WS.drop 24).take 12 = ([87, 88, 89, 90, 91, 92, 93, 94, 95, 96, 97, 98] : List Nat).filterMap (fun i => lw_tbl[i]?) := by decide +kernel
set_option maxRecDepth 100000 in
theorem WS_at_36 : (WS.drop 36).take 12 = ([100, 101, 102, 103, 104, 107, 109, 112, 113, 115, 116, 117] : List Nat).filterMap (fun i => lw_tbl[i]?) := by decide +kernel
set_option maxRecDepth 100000 in
theorem WS_at_48 : (WS.drop 48).take 12 = ([118, 119, 120, 122, 124, 125, 126, 127, 128, 132, 134, 137] : List Nat).filterMap (fun i => lw_tbl[i]?) := by decide +kernel
set_option maxRecDepth 100000 in
theorem WS_at_60 : (WS.drop 60).take 12 = ([139, 141, 144, 147, 149, 151, 153, 156, 159, 161, 163, 165] : List Nat).filterMap (fun i => lw_tbl[i]?) := by decide +kernel
set_option maxRecDepth 100000 in
theorem WS_at_72 : (WS.drop 72).take 12 = ([167, 169, 171, 174, 175, 176, 177, 178, 179, 180, 181, 182] : List Nat).filterMap (fun i => lw_tbl[i]?) := by decide +kernel
set_option maxRecDepth 100000 in
theorem WS_at_84 : (WS.drop 84).take 12 = ([183, 184, 185, 186, 187, 191, 193, 196, 197, 198, 199, 200] : List Nat).filterMap (fun i => lw_tbl[i]?) := by decide +kernel
set_option maxRecDepth 100000 in
theorem WS_at_96 : (WS.drop 96).take 12 = ([202, 204, 207, 208, 209, 210, 211, 212, 213, 214, 216, 217] : List Nat).filterMap (fun i => lw_tbl[i]?) := by decide +kernel
set_option maxRecDepth 100000 in
theorem WS_at_108 : (WS.drop 108).take 12 = ([218, 219, 220, 222, 223, 225, 227, 230, 231, 232, 233, 234] : List Nat).filterMap (fun i => lw_tbl[i]?) := by decide +kernel
set_option maxRecDepth 100000 in
theorem WS_at_120 : (WS.drop 120).take 12 = ([235, 236, 237, 238, 239, 240, 242, 244, 245, 247, 249, 251] : List Nat).filterMap (fun i => lw_tbl[i]?) := by decide +kernel
set_option maxRecDepth 100000 in
theorem WS_at_132 : (WS.drop 132).take 12 = ([253, 255, 257, 260, 261, 262, 263, 264, 265, 266, 267, 268] : List Nat).filterMap (fun i => lw_tbl[i]?) := by decide +kernel
set_option maxRecDepth 100000 in
theorem WS_at_144 : (WS.drop 144).take 12 = ([269, 270, 271, 272, 274, 276, 278, 279, 281, 282, 284, 286] : List Nat).filterMap (fun i => lw_tbl[i]?) := by decide +kernel
set_option maxRecDepth 100000 in
theorem WS_at_156 : (WS.drop 156).take 12 = ([288, 290, 292, 294, 297, 298, 299, 300, 301, 302, 303, 304] : List Nat).filterMap (fun i => lw_tbl[i]?) := by decide +kernel
set_option maxRecDepth 100000 in
theorem WS_at_168 : (WS.drop 168).take 12 = ([306, 308, 310, 312, 315, 316, 317, 318, 319, 320, 321, 322] : List Nat).filterMap (fun i => lw_tbl[i]?) := by decide +kernel
set_option maxRecDepth 100000 in
theorem WS_at_180 : (WS.drop 180).take 12 = ([323, 324, 325, 326, 327, 328, 329, 330, 331, 332, 333, 334] : List Nat).filterMap (fun i => lw_tbl[i]?) := by decide +kernel
set_option maxRecDepth 100000 in
theorem WS_at_192 : (WS.drop 192).take 12 = ([335, 336, 337, 338, 339, 340, 341, 342, 343, 344, 345, 346] : List Nat).filterMap (fun i => lw_tbl[i]?) := by decide +kernel
set_option maxRecDepth 100000 in
theorem WS_at_204 : (WS.drop 204).take 12 = ([347, 348, 349, 350, 351, 352, 353, 354, 355, 356, 357, 358] : List Nat).filterMap (fun i => lw_tbl[i]?) := by decide +kernel
set_option maxRecDepth 100000 in
theorem WS_at_216 : (WS.drop 216).take 12 = ([359, 360, 361, 362, 363, 364, 365, 366, 367, 368, 369, 370] : List Nat).filterMap (fun i => lw_tbl[i]?) := by decide +kernel
set_option maxRecDepth 100000 in
theorem WS_at_228 : (WS.drop 228).take 12 = ([372, 373, 374, 375, 376, 377, 378, 379, 380, 381, 382, 383] : List Nat).filterMap (fun i => lw_tbl[i]?) := by decide +kernel
set_option maxRecDepth 100000 in
theorem WS_at_240 : (WS.drop 240).take 12 = ([384, 386, 387, 388, 389, 390, 391, 392, 393, 394, 395, 396] : List Nat).filterMap (fun i => lw_tbl[i]?) := by decide +kernel
set_option maxRecDepth 100000 in
theorem WS_at_252 : (WS.drop 252).take 12 = ([397, 398, 399, 400, 401, 402, 403, 404, 405, 406, 407, 408] : List Nat).filterMap (fun i => lw_tbl[i]?) := by decide +kernel
set_option maxRecDepth 100000 in
theorem WS_at_264 : (WS.drop 264).take 12 = ([412, 413, 414, 427, 438, 440, 442, 453, 457, 458, 459, 460] : List Nat).filterMap (fun i => lw_tbl[i]?) := by decide +kernel
