set_option maxRecDepth 100000 in
theorem WS_at_276 : (WS.drop 276).take 12 = ([462, 463, 464, 465, 466, 468, 469, 470, 471, 472, 473, 474] : List Nat).filterMap (fun i => lw_tbl[i]?) := by decide +kernel
set_option maxRecDepth 100000 in
theorem WS_at_288 : (WS.drop 288).take 12 = ([475, 476, 477, 478, 479, 480, 481, 482, 483, 485, 486, 487] : List Nat).filterMap (fun i => lw_tbl[i]?) := by decide +kernel
set_option maxRecDepth 100000 in
theorem WS_at_300 : (WS.drop 300).take 12 = ([489, 490, 491, 493, 494, 495, 497, 498, 499, 500, 501, 502] : List Nat).filterMap (fun i => lw_tbl[i]?) := by decide +kernel
set_option maxRecDepth 100000 in
theorem WS_at_312 : (WS.drop 312).take 12 = ([503, 505, 506, 507, 508, 509, 510, 511, 512, 513, 514, 515] : List Nat).filterMap (fun i => lw_tbl[i]?) := by decide +kernel
set_option maxRecDepth 100000 in
theorem WS_at_324 : (WS.drop 324).take 12 = ([516, 517, 518, 519, 520, 521, 522, 523, 524, 525, 526, 527] : List Nat).filterMap (fun i => lw_tbl[i]?) := by decide +kernel
set_option maxRecDepth 100000 in
theorem WS_at_336 : (WS.drop 336).take 12 = ([528, 529, 530, 531, 532, 533, 534, 535, 536, 537, 538, 539] : List Nat).filterMap (fun i => lw_tbl[i]?) := by decide +kernel
set_option maxRecDepth 100000 in
theorem WS_at_348 : (WS.drop 348).take 12 = ([540, 541, 542, 543, 544, 545, 546, 547, 548, 549, 550, 551] : List Nat).filterMap (fun i => lw_tbl[i]?) := by decide +kernel
set_option maxRecDepth 100000 in
theorem WS_at_360 : (WS.drop 360).take 12 = ([552, 553, 554, 555, 556, 557, 558, 559, 560, 561, 562, 563] : List Nat).filterMap (fun i => lw_tbl[i]?) := by decide +kernel
set_option maxRecDepth 100000 in
theorem WS_at_372 : (WS.drop 372).take 12 = ([564, 565, 566, 567, 568, 569, 570, 571, 572, 573, 574, 575] : List Nat).filterMap (fun i => lw_tbl[i]?) := by decide +kernel
set_option maxRecDepth 100000 in
theorem WS_at_384 : (WS.drop 384).take 12 = ([576, 577, 578, 579, 580, 581, 582, 583, 584, 585, 591, 592] : List Nat).filterMap (fun i => lw_tbl[i]?) := by decide +kernel
set_option maxRecDepth 100000 in
theorem WS_at_396 : (WS.drop 396).take 12 = ([593, 594, 595, 596, 597, 598, 599, 600, 601, 602, 603, 604] : List Nat).filterMap (fun i => lw_tbl[i]?) := by decide +kernel
set_option maxRecDepth 100000 in
theorem WS_at_408 : (WS.drop 408).take 12 = ([605, 606, 607, 608, 615, 616, 617, 618, 619, 620, 621, 623] : List Nat).filterMap (fun i => lw_tbl[i]?) := by decide +kernel
set_option maxRecDepth 100000 in
theorem WS_at_420 : (WS.drop 420).take 12 = ([624, 625, 626, 627, 628, 629, 630, 631, 632, 633, 634, 635] : List Nat).filterMap (fun i => lw_tbl[i]?) := by decide +kernel
set_option maxRecDepth 100000 in
theorem WS_at_432 : (WS.drop 432).take 12 = ([636, 637, 638, 639, 640, 641, 643, 644, 645, 646, 647, 648] : List Nat).filterMap (fun i => lw_tbl[i]?) := by decide +kernel
set_option maxRecDepth 100000 in
theorem WS_at_444 : (WS.drop 444).take 12 = ([649, 650, 651, 652, 653, 654, 655, 656, 657, 658, 659, 660] : List Nat).filterMap (fun i => lw_tbl[i]?) := by decide +kernel
set_option maxRecDepth 100000 in
theorem WS_at_456 : (WS.drop 456).take 12 = ([661, 662, 663, 664, 666, 667, 668, 669, 671, 672, 673, 674] : List Nat).filterMap (fun i => lw_tbl[i]?) := by decide +kernel
set_option maxRecDepth 100000 in
theorem WS_at_468 : (WS.drop 468).take 12 = ([675, 676, 677, 678, 679, 680, 681, 682, 683, 684, 685, 686] : List Nat).filterMap (fun i => lw_tbl[i]?) := by decide +kernel
set_option maxRecDepth 100000 in
theorem WS_at_480 : (WS.drop 480).take 12 = ([687, 688, 689, 690, 691, 692, 693, 694, 695, 696, 697, 699] : List Nat).filterMap (fun i => lw_tbl[i]?) := by decide +kernel
set_option maxRecDepth 100000 in
theorem WS_at_492 : (WS.drop 492).take 12 = ([700, 701, 702, 703, 704, 705, 706, 707, 709, 711, 712, 713] : List Nat).filterMap (fun i => lw_tbl[i]?) := by decide +kernel
set_option maxRecDepth 100000 in
theorem WS_at_504 : (WS.drop 504).take 12 = ([714, 715, 719, 720, 721, 722, 724, 725, 727, 728, 729, 730] : List Nat).filterMap (fun i => lw_tbl[i]?) := by decide +kernel
set_option maxRecDepth 100000 in
theorem WS_at_516 : (WS.drop 516).take 12 = ([731, 732, 733, 734, 736, 737, 738, 739, 740, 741, 742, 743] : List Nat).filterMap (fun i => lw_tbl[i]?) := by decide +kernel
set_option maxRecDepth 100000 in
theorem WS_at_528 : (WS.drop 528).take 12 = ([744, 745, 746, 747, 748, 749, 750, 751, 752, 753, 754, 755] : List Nat).filterMap (fun i => lw_tbl[i]?) := by decide +kernel
set_option maxRecDepth 100000 in
theorem WS_at_540 : (WS.drop 540).take 12 = ([756, 758, 759, 760, 761, 763, 764, 765, 767, 768, 769, 771] : List Nat).filterMap (fun i => lw_tbl[i]?) := by decide +kernel
