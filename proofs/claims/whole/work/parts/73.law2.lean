/-! laid by program: cases of the law -/
theorem dL_law_341 : decode cL_law 341 = .ok (.aload_n 1, 1) := by decide +kernel
theorem dL_law_342 : decode cL_law 342 = .ok (.aload_n 0, 1) := by decide +kernel
theorem dL_law_343 : decode cL_law 343 = .ok (.iload_n 3, 1) := by decide +kernel
theorem dL_law_344 : decode cL_law 344 = .ok (.iconst 1, 1) := by decide +kernel
theorem dL_law_345 : decode cL_law 345 = .ok (.iadd, 1) := by decide +kernel
theorem dL_law_346 : decode cL_law 346 = .ok (.iaload, 1) := by decide +kernel
theorem dL_law_347 : decode cL_law 347 = .ok (.aload_n 0, 1) := by decide +kernel
theorem dL_law_348 : decode cL_law 348 = .ok (.iload_n 3, 1) := by decide +kernel
theorem dL_law_349 : decode cL_law 349 = .ok (.iconst 2, 1) := by decide +kernel
theorem dL_law_350 : decode cL_law 350 = .ok (.iadd, 1) := by decide +kernel
theorem dL_law_351 : decode cL_law 351 = .ok (.iaload, 1) := by decide +kernel
theorem dL_law_352 : decode cL_law 352 = .ok (.invokevirtual 29, 3) := by decide +kernel
theorem dL_law_355 : decode cL_law 355 = .ok (.aload_n 2, 1) := by decide +kernel
theorem dL_law_356 : decode cL_law 356 = .ok (.aload_n 0, 1) := by decide +kernel
theorem dL_law_357 : decode cL_law 357 = .ok (.iload_n 3, 1) := by decide +kernel
theorem dL_law_358 : decode cL_law 358 = .ok (.iconst 1, 1) := by decide +kernel
theorem dL_law_359 : decode cL_law 359 = .ok (.iadd, 1) := by decide +kernel
theorem dL_law_360 : decode cL_law 360 = .ok (.iaload, 1) := by decide +kernel
theorem dL_law_361 : decode cL_law 361 = .ok (.aload_n 0, 1) := by decide +kernel
theorem dL_law_362 : decode cL_law 362 = .ok (.iload_n 3, 1) := by decide +kernel
theorem dL_law_363 : decode cL_law 363 = .ok (.iconst 2, 1) := by decide +kernel
theorem dL_law_364 : decode cL_law 364 = .ok (.iadd, 1) := by decide +kernel
theorem dL_law_365 : decode cL_law 365 = .ok (.iaload, 1) := by decide +kernel
theorem dL_law_366 : decode cL_law 366 = .ok (.invokevirtual 33, 3) := by decide +kernel
theorem dL_law_369 : decode cL_law 369 = .ok (.if_icmp .eq 796, 3) := by decide +kernel
theorem dL_law_372 : decode cL_law 372 = .ok (.iconst 0, 1) := by decide +kernel
theorem dL_law_373 : decode cL_law 373 = .ok (.ireturn, 1) := by decide +kernel
theorem dL_law_374 : decode cL_law 374 = .ok (.aload_n 1, 1) := by decide +kernel
theorem dL_law_375 : decode cL_law 375 = .ok (.aload_n 0, 1) := by decide +kernel
theorem dL_law_376 : decode cL_law 376 = .ok (.iload_n 3, 1) := by decide +kernel
theorem dL_law_377 : decode cL_law 377 = .ok (.iconst 1, 1) := by decide +kernel
theorem dL_law_378 : decode cL_law 378 = .ok (.iadd, 1) := by decide +kernel
theorem dL_law_379 : decode cL_law 379 = .ok (.iaload, 1) := by decide +kernel
theorem dL_law_380 : decode cL_law 380 = .ok (.invokevirtual 34, 3) := by decide +kernel
theorem dL_law_383 : decode cL_law 383 = .ok (.aload_n 2, 1) := by decide +kernel
theorem dL_law_384 : decode cL_law 384 = .ok (.aload_n 0, 1) := by decide +kernel
theorem dL_law_385 : decode cL_law 385 = .ok (.iload_n 3, 1) := by decide +kernel
theorem dL_law_386 : decode cL_law 386 = .ok (.iconst 1, 1) := by decide +kernel
theorem dL_law_387 : decode cL_law 387 = .ok (.iadd, 1) := by decide +kernel
theorem dL_law_388 : decode cL_law 388 = .ok (.iaload, 1) := by decide +kernel
theorem dL_law_389 : decode cL_law 389 = .ok (.invokevirtual 38, 3) := by decide +kernel
theorem dL_law_392 : decode cL_law 392 = .ok (.if_icmp .eq 773, 3) := by decide +kernel
theorem dL_law_395 : decode cL_law 395 = .ok (.iconst 0, 1) := by decide +kernel
theorem dL_law_396 : decode cL_law 396 = .ok (.ireturn, 1) := by decide +kernel
theorem dL_law_397 : decode cL_law 397 = .ok (.aload_n 1, 1) := by decide +kernel
theorem dL_law_398 : decode cL_law 398 = .ok (.invokevirtual 39, 3) := by decide +kernel
theorem dL_law_401 : decode cL_law 401 = .ok (.aload_n 2, 1) := by decide +kernel
theorem dL_law_402 : decode cL_law 402 = .ok (.invokevirtual 42, 3) := by decide +kernel
theorem dL_law_405 : decode cL_law 405 = .ok (.if_icmp .eq 760, 3) := by decide +kernel
theorem dL_law_408 : decode cL_law 408 = .ok (.iconst 0, 1) := by decide +kernel
theorem dL_law_409 : decode cL_law 409 = .ok (.ireturn, 1) := by decide +kernel
theorem dL_law_410 : decode cL_law 410 = .ok (.aload_n 1, 1) := by decide +kernel
theorem dL_law_411 : decode cL_law 411 = .ok (.aload_n 0, 1) := by decide +kernel
theorem dL_law_412 : decode cL_law 412 = .ok (.iload_n 3, 1) := by decide +kernel
theorem dL_law_413 : decode cL_law 413 = .ok (.iconst 1, 1) := by decide +kernel
theorem dL_law_414 : decode cL_law 414 = .ok (.iadd, 1) := by decide +kernel
theorem dL_law_415 : decode cL_law 415 = .ok (.iaload, 1) := by decide +kernel
theorem dL_law_416 : decode cL_law 416 = .ok (.aload_n 0, 1) := by decide +kernel
theorem dL_law_417 : decode cL_law 417 = .ok (.iload_n 3, 1) := by decide +kernel
theorem dL_law_418 : decode cL_law 418 = .ok (.iconst 2, 1) := by decide +kernel
theorem dL_law_419 : decode cL_law 419 = .ok (.iadd, 1) := by decide +kernel
theorem dL_law_420 : decode cL_law 420 = .ok (.iaload, 1) := by decide +kernel
theorem dL_law_421 : decode cL_law 421 = .ok (.aload_n 0, 1) := by decide +kernel
theorem dL_law_422 : decode cL_law 422 = .ok (.iload_n 3, 1) := by decide +kernel
theorem dL_law_423 : decode cL_law 423 = .ok (.iconst 3, 1) := by decide +kernel
theorem dL_law_424 : decode cL_law 424 = .ok (.iadd, 1) := by decide +kernel
theorem dL_law_425 : decode cL_law 425 = .ok (.iaload, 1) := by decide +kernel
theorem dL_law_426 : decode cL_law 426 = .ok (.ifCond .eq 7, 3) := by decide +kernel
theorem dL_law_429 : decode cL_law 429 = .ok (.iconst 1, 1) := by decide +kernel
theorem dL_law_430 : decode cL_law 430 = .ok (.goto 4, 3) := by decide +kernel
theorem dL_law_433 : decode cL_law 433 = .ok (.iconst 0, 1) := by decide +kernel
theorem dL_law_434 : decode cL_law 434 = .ok (.invokevirtual 43, 3) := by decide +kernel
theorem dL_law_437 : decode cL_law 437 = .ok (.aload_n 2, 1) := by decide +kernel
theorem dL_law_438 : decode cL_law 438 = .ok (.aload_n 0, 1) := by decide +kernel
theorem dL_law_439 : decode cL_law 439 = .ok (.iload_n 3, 1) := by decide +kernel
theorem dL_law_440 : decode cL_law 440 = .ok (.iconst 1, 1) := by decide +kernel
theorem dL_law_441 : decode cL_law 441 = .ok (.iadd, 1) := by decide +kernel
theorem dL_law_442 : decode cL_law 442 = .ok (.iaload, 1) := by decide +kernel
theorem dL_law_443 : decode cL_law 443 = .ok (.aload_n 0, 1) := by decide +kernel
theorem dL_law_444 : decode cL_law 444 = .ok (.iload_n 3, 1) := by decide +kernel
theorem dL_law_445 : decode cL_law 445 = .ok (.iconst 2, 1) := by decide +kernel
theorem dL_law_446 : decode cL_law 446 = .ok (.iadd, 1) := by decide +kernel
theorem dL_law_447 : decode cL_law 447 = .ok (.iaload, 1) := by decide +kernel
theorem dL_law_448 : decode cL_law 448 = .ok (.aload_n 0, 1) := by decide +kernel
theorem dL_law_449 : decode cL_law 449 = .ok (.iload_n 3, 1) := by decide +kernel
theorem dL_law_450 : decode cL_law 450 = .ok (.iconst 3, 1) := by decide +kernel
theorem dL_law_451 : decode cL_law 451 = .ok (.iadd, 1) := by decide +kernel
theorem dL_law_452 : decode cL_law 452 = .ok (.iaload, 1) := by decide +kernel
theorem dL_law_453 : decode cL_law 453 = .ok (.ifCond .eq 7, 3) := by decide +kernel
theorem dL_law_456 : decode cL_law 456 = .ok (.iconst 1, 1) := by decide +kernel
theorem dL_law_457 : decode cL_law 457 = .ok (.goto 4, 3) := by decide +kernel
theorem dL_law_460 : decode cL_law 460 = .ok (.iconst 0, 1) := by decide +kernel
theorem dL_law_461 : decode cL_law 461 = .ok (.invokevirtual 47, 3) := by decide +kernel
theorem dL_law_464 : decode cL_law 464 = .ok (.if_icmp .eq 701, 3) := by decide +kernel
theorem dL_law_467 : decode cL_law 467 = .ok (.iconst 0, 1) := by decide +kernel
theorem dL_law_468 : decode cL_law 468 = .ok (.ireturn, 1) := by decide +kernel
theorem dL_law_469 : decode cL_law 469 = .ok (.aload_n 1, 1) := by decide +kernel
theorem dL_law_470 : decode cL_law 470 = .ok (.aload_n 0, 1) := by decide +kernel
theorem dL_law_471 : decode cL_law 471 = .ok (.iload_n 3, 1) := by decide +kernel
theorem dL_law_472 : decode cL_law 472 = .ok (.iconst 1, 1) := by decide +kernel
theorem dL_law_473 : decode cL_law 473 = .ok (.iadd, 1) := by decide +kernel
theorem dL_law_474 : decode cL_law 474 = .ok (.iaload, 1) := by decide +kernel
theorem dL_law_475 : decode cL_law 475 = .ok (.aload_n 0, 1) := by decide +kernel
theorem dL_law_476 : decode cL_law 476 = .ok (.iload_n 3, 1) := by decide +kernel
theorem dL_law_477 : decode cL_law 477 = .ok (.iconst 2, 1) := by decide +kernel
theorem dL_law_478 : decode cL_law 478 = .ok (.iadd, 1) := by decide +kernel
theorem dL_law_479 : decode cL_law 479 = .ok (.iaload, 1) := by decide +kernel
theorem dL_law_480 : decode cL_law 480 = .ok (.ifCond .eq 7, 3) := by decide +kernel
theorem dL_law_483 : decode cL_law 483 = .ok (.iconst 1, 1) := by decide +kernel
theorem dL_law_484 : decode cL_law 484 = .ok (.goto 4, 3) := by decide +kernel
theorem dL_law_487 : decode cL_law 487 = .ok (.iconst 0, 1) := by decide +kernel
theorem dL_law_488 : decode cL_law 488 = .ok (.invokevirtual 48, 3) := by decide +kernel
theorem dL_law_491 : decode cL_law 491 = .ok (.aload_n 2, 1) := by decide +kernel
theorem dL_law_492 : decode cL_law 492 = .ok (.aload_n 0, 1) := by decide +kernel
theorem dL_law_493 : decode cL_law 493 = .ok (.iload_n 3, 1) := by decide +kernel
theorem dL_law_494 : decode cL_law 494 = .ok (.iconst 1, 1) := by decide +kernel
theorem dL_law_495 : decode cL_law 495 = .ok (.iadd, 1) := by decide +kernel
theorem dL_law_496 : decode cL_law 496 = .ok (.iaload, 1) := by decide +kernel
theorem dL_law_497 : decode cL_law 497 = .ok (.aload_n 0, 1) := by decide +kernel
theorem dL_law_498 : decode cL_law 498 = .ok (.iload_n 3, 1) := by decide +kernel
theorem dL_law_499 : decode cL_law 499 = .ok (.iconst 2, 1) := by decide +kernel
theorem dL_law_500 : decode cL_law 500 = .ok (.iadd, 1) := by decide +kernel
theorem dL_law_501 : decode cL_law 501 = .ok (.iaload, 1) := by decide +kernel
theorem dL_law_502 : decode cL_law 502 = .ok (.ifCond .eq 7, 3) := by decide +kernel
theorem dL_law_505 : decode cL_law 505 = .ok (.iconst 1, 1) := by decide +kernel
theorem dL_law_506 : decode cL_law 506 = .ok (.goto 4, 3) := by decide +kernel
theorem dL_law_509 : decode cL_law 509 = .ok (.iconst 0, 1) := by decide +kernel
theorem dL_law_510 : decode cL_law 510 = .ok (.invokevirtual 52, 3) := by decide +kernel
theorem dL_law_513 : decode cL_law 513 = .ok (.if_icmp .eq 652, 3) := by decide +kernel
theorem dL_law_516 : decode cL_law 516 = .ok (.iconst 0, 1) := by decide +kernel
theorem dL_law_517 : decode cL_law 517 = .ok (.ireturn, 1) := by decide +kernel
theorem dL_law_518 : decode cL_law 518 = .ok (.aload_n 1, 1) := by decide +kernel
theorem dL_law_519 : decode cL_law 519 = .ok (.aload_n 0, 1) := by decide +kernel
theorem dL_law_520 : decode cL_law 520 = .ok (.iload_n 3, 1) := by decide +kernel
theorem dL_law_521 : decode cL_law 521 = .ok (.iconst 1, 1) := by decide +kernel
theorem dL_law_522 : decode cL_law 522 = .ok (.iadd, 1) := by decide +kernel
theorem dL_law_523 : decode cL_law 523 = .ok (.iaload, 1) := by decide +kernel
theorem dL_law_524 : decode cL_law 524 = .ok (.invokevirtual 53, 3) := by decide +kernel
theorem dL_law_527 : decode cL_law 527 = .ok (.aload_n 2, 1) := by decide +kernel
theorem dL_law_528 : decode cL_law 528 = .ok (.aload_n 0, 1) := by decide +kernel
theorem dL_law_529 : decode cL_law 529 = .ok (.iload_n 3, 1) := by decide +kernel
theorem dL_law_530 : decode cL_law 530 = .ok (.iconst 1, 1) := by decide +kernel
theorem dL_law_531 : decode cL_law 531 = .ok (.iadd, 1) := by decide +kernel
theorem dL_law_532 : decode cL_law 532 = .ok (.iaload, 1) := by decide +kernel
theorem dL_law_533 : decode cL_law 533 = .ok (.invokevirtual 56, 3) := by decide +kernel
theorem dL_law_536 : decode cL_law 536 = .ok (.if_icmp .eq 629, 3) := by decide +kernel
theorem dL_law_539 : decode cL_law 539 = .ok (.iconst 0, 1) := by decide +kernel
theorem dL_law_540 : decode cL_law 540 = .ok (.ireturn, 1) := by decide +kernel
set_option maxRecDepth 20000 in
theorem gL_law_X11_guest : GoodIn wsL_law (wsV RL 29 RX11 yX11_guest wsX11_guest) := goodIn_r _ [814, 815, 816, 2, 817, 22, 818, 819, 820, 821, 822, 823, 796, 797, 21, 798, 325, 1424, 1425, 1426, 1427, 1428, 1429, 1430, 1431, 1432, 1433, 1434, 1435, 1482, 1483, 1484, 1485, 1486, 1487, 1488, 1489, 1490, 1491, 1492, 1493, 1494] rfl (by decide +kernel)
set_option maxRecDepth 20000 in
theorem gL_law_X12_guest : GoodIn wsL_law (wsV RL 33 RX12 yX12_guest wsX12_guest) := goodIn_r _ [824, 825, 826, 5, 827, 302, 828, 829, 830, 5, 831, 260, 261, 262, 263, 218, 727, 728, 729, 264, 265, 266, 267, 1436, 1437, 1438, 1439, 1440, 1441, 1442, 1443, 1444, 1445, 1446, 1447, 1448, 1449, 1450, 1451, 1452, 1453, 1454, 1455, 1456, 1457, 1458, 1459, 1460, 1461, 1462, 1463, 1464, 1465, 1466, 1467, 1468, 1469, 1470, 1471, 1472, 1473, 1474] rfl (by decide +kernel)
set_option maxRecDepth 20000 in
theorem gL_law_X11_shows : GoodIn wsL_law (wsV RL 34 RX11 yX11_shows wsX11_shows) := goodIn_r _ [832, 833, 834, 2, 835, 22, 836, 837, 838, 839, 21, 840, 325, 1424, 1425, 1426, 1427, 1428, 1429, 1430, 1431, 1432, 1433, 1434, 1435, 1482, 1483, 1484, 1485, 1486, 1487, 1488, 1489, 1490, 1491, 1492, 1493, 1494] rfl (by decide +kernel)
set_option maxRecDepth 20000 in
theorem gL_law_X12_shows : GoodIn wsL_law (wsV RL 38 RX12 yX12_shows wsX12_shows) := goodIn_r _ [841, 842, 843, 5, 844, 302, 231, 279, 280, 281, 5, 282, 260, 261, 262, 263, 218, 727, 728, 729, 1436, 1437, 1438, 1439, 1440, 1441, 1442, 1443, 1444, 1445, 1446, 1447, 1448, 1449, 1450, 1451, 1452, 1453, 1454, 1455, 1456, 1457, 1458, 1459, 1460, 1461, 1462, 1463, 1464, 1465, 1466, 1467, 1468, 1469, 1470, 1471, 1472, 1473, 1474] rfl (by decide +kernel)
set_option maxRecDepth 20000 in
theorem gL_law_X11_left : GoodIn wsL_law (wsV RL 39 RX11 yX11_left wsX11_left) := goodIn_r _ [845, 846, 847, 2, 848, 32, 849, 1424, 1425, 1426, 1427, 1428, 1429, 1430, 1431, 1432, 1433, 1434, 1435, 1498, 1499, 1500, 1501, 1502, 1503, 1504, 1505, 1506] rfl (by decide +kernel)
set_option maxRecDepth 20000 in
theorem gL_law_X12_left : GoodIn wsL_law (wsV RL 42 RX12 yX12_left wsX12_left) := goodIn_r _ [850, 851, 852, 5, 853, 302, 228, 1436, 1437, 1438, 1439, 1440, 1441, 1442, 1443, 1444, 1445, 1446, 1447, 1448, 1449, 1450, 1451, 1452, 1453, 1454, 1455, 1456, 1457, 1458, 1459, 1460, 1461, 1462, 1463, 1464, 1465, 1466, 1467, 1468, 1469, 1470, 1471, 1472, 1473, 1474] rfl (by decide +kernel)
set_option maxRecDepth 20000 in
theorem gL_law_X11_answer : GoodIn wsL_law (wsV RL 43 RX11 yX11_answer wsX11_answer) := goodIn_r _ [854, 855, 856, 2, 857, 22, 823, 796, 797, 21, 798, 325, 858, 567, 568, 569, 859, 792, 793, 794, 138, 795, 595, 578, 579, 580, 581, 860, 861, 862, 2, 863, 32, 849, 864, 865, 866, 31, 867, 616, 868, 869, 870, 871, 619, 159, 160, 617, 872, 873, 874, 875, 876, 877, 878, 1424, 1425, 1426, 1427, 1428, 1429, 1430, 1431, 1432, 1433, 1434, 1435, 1482, 1483, 1484, 1485, 1486, 1487, 1488, 1489, 1490, 1491, 1492, 1493, 1494, 1498, 1499, 1500, 1501, 1502, 1503, 1504, 1505, 1506] rfl (by decide +kernel)
set_option maxRecDepth 20000 in
theorem gL_law_X12_answer : GoodIn wsL_law (wsV RL 47 RX12 yX12_answer wsX12_answer) := goodIn_r _ [879, 880, 881, 5, 882, 302, 828, 829, 830, 5, 831, 260, 261, 262, 263, 218, 883, 884, 885, 886, 272, 273, 274, 275, 276, 277, 278, 279, 280, 281, 282, 887, 888, 889, 890, 264, 265, 266, 267, 891, 892, 893, 894, 228, 895, 896, 897, 898, 247, 899, 900, 901, 902, 903, 904, 905, 1436, 1437, 1438, 1439, 1440, 1441, 1442, 1443, 1444, 1445, 1446, 1447, 1448, 1449, 1450, 1451, 1452, 1453, 1454, 1455, 1456, 1457, 1458, 1459, 1460, 1461, 1462, 1463, 1464, 1465, 1466, 1467, 1468, 1469, 1470, 1471, 1472, 1473, 1474] rfl (by decide +kernel)
set_option maxRecDepth 20000 in
theorem gL_law_X11_sign : GoodIn wsL_law (wsV RL 48 RX11 yX11_sign wsX11_sign) := goodIn_r _ [906, 907, 908, 2, 909, 22, 910, 575, 576, 21, 577, 326, 911, 571, 572, 573, 146, 574, 578, 579, 580, 581, 325, 860, 861, 862, 2, 863, 32, 849, 864, 865, 866, 31, 867, 616, 868, 869, 870, 871, 619, 159, 160, 617, 872, 873, 874, 875, 876, 877, 878, 1424, 1425, 1426, 1427, 1428, 1429, 1430, 1431, 1432, 1433, 1434, 1435, 1482, 1483, 1484, 1485, 1486, 1487, 1488, 1489, 1490, 1491, 1492, 1493, 1494, 1498, 1499, 1500, 1501, 1502, 1503, 1504, 1505, 1506] rfl (by decide +kernel)
set_option maxRecDepth 20000 in
theorem gL_law_X12_sign : GoodIn wsL_law (wsV RL 52 RX12 yX12_sign wsX12_sign) := goodIn_r _ [912, 913, 914, 5, 915, 302, 230, 248, 249, 250, 5, 251, 218, 727, 728, 729, 275, 276, 277, 278, 279, 280, 281, 282, 260, 261, 262, 263, 891, 892, 893, 894, 228, 895, 896, 897, 898, 247, 899, 900, 901, 902, 903, 904, 905, 1436, 1437, 1438, 1439, 1440, 1441, 1442, 1443, 1444, 1445, 1446, 1447, 1448, 1449, 1450, 1451, 1452, 1453, 1454, 1455, 1456, 1457, 1458, 1459, 1460, 1461, 1462, 1463, 1464, 1465, 1466, 1467, 1468, 1469, 1470, 1471, 1472, 1473, 1474] rfl (by decide +kernel)
set_option maxRecDepth 20000 in
theorem gL_law_X11_weather : GoodIn wsL_law (wsV RL 53 RX11 yX11_weather wsX11_weather) := goodIn_r _ [916, 917, 918, 2, 919, 22, 920, 583, 584, 21, 585, 586, 325, 578, 579, 580, 581, 587, 588, 589, 590, 139, 140, 591, 592, 593, 594, 595, 567, 568, 569, 860, 861, 862, 2, 863, 32, 849, 864, 865, 866, 31, 867, 616, 868, 869, 870, 871, 619, 159, 160, 617, 872, 873, 874, 875, 876, 877, 878, 1424, 1425, 1426, 1427, 1428, 1429, 1430, 1431, 1432, 1433, 1434, 1435, 1482, 1483, 1484, 1485, 1486, 1487, 1488, 1489, 1490, 1491, 1492, 1493, 1494, 1498, 1499, 1500, 1501, 1502, 1503, 1504, 1505, 1506] rfl (by decide +kernel)
set_option maxRecDepth 20000 in
theorem gL_law_X12_weather : GoodIn wsL_law (wsV RL 56 RX12 yX12_weather wsX12_weather) := goodIn_r _ [921, 922, 923, 5, 924, 302, 727, 728, 5, 729, 256, 257, 258, 259, 260, 261, 262, 263, 218, 264, 265, 266, 267, 268, 269, 270, 271, 272, 273, 274, 891, 892, 893, 894, 228, 895, 896, 897, 898, 247, 899, 900, 901, 902, 903, 904, 905, 1436, 1437, 1438, 1439, 1440, 1441, 1442, 1443, 1444, 1445, 1446, 1447, 1448, 1449, 1450, 1451, 1452, 1453, 1454, 1455, 1456, 1457, 1458, 1459, 1460, 1461, 1462, 1463, 1464, 1465, 1466, 1467, 1468, 1469, 1470, 1471, 1472, 1473, 1474] rfl (by decide +kernel)
section
variable {p : Program} {l : Launch} {e : Env} {s : State} {m : MethodId} {below : List Frame} {meth : Method} {c : Code} {D : va_G} {cy : Nat → ClassId} {ad aM : Nat → Nat} {A : Nat → Prop} {b L i : Nat} {xs : Nat → Int32} {Inv : (Nat → Ob) → Ob → Prop}
set_option maxRecDepth 100000 in
set_option maxHeartbeats 8000000 in
theorem law_guest (hC : Cx p s m #[Value.ref b] meth c code 4 wsL_law RL ret) (hX : va_X b L xs s s.heap) (hbl : b < s.heap.size) (hbA : ¬ A b) (hL : L ≤ 3584) (hi : i + 7 ≤ L) (hS : St_guest Inv) (next : ∀ (cs : Nat → Ob) (sm : Ob) (u : Nat → Nat → Nat) (gi : Value) (H : Heap) (locs : List Loc) (ls : Array Slot), Inv cs sm → GW D cy ad (AW cy u gi cs aM sm) A s H locs → lv_has ls 4 [(0, .ref b), (1, .ref (u 0 0)), (2, .ref (aM 0)), (3, .int (nI i))] → W p l e room_1 s m #[Value.ref b] below meth c H locs lwC lwS (lw_Z below #[Value.ref b] s) (F0 m 1165 ls [])) : ∀ (cs : Nat → Ob) (sm : Ob) (u : Nat → Nat → Nat) (gi : Value) (H : Heap) (locs : List Loc) (ls : Array Slot), Inv cs sm → GW D cy ad (AW cy u gi cs aM sm) A s H locs → lv_has ls 4 [(0, .ref b), (1, .ref (u 0 0)), (2, .ref (aM 0)), (3, .int (nI i))] → W p l e room_1 s m #[Value.ref b] below meth c H locs lwC lwS (lw_Z below #[Value.ref b] s) (F0 m 341 ls []) := by
  intro cs sm u gi H locs ls hI hW hl
  have hi1 : vp_in (nI i + 1) L := lw_in (j := 1) (by omega) (by omega)
  obtain ⟨a1, ea1⟩ : ∃ y : Int32, y = xs (Int32.toNatClampNeg (nI i + 1)) := ⟨_, rfl⟩
  have hi2 : vp_in (nI i + 2) L := lw_in (j := 2) (by omega) (by omega)
  obtain ⟨a2, ea2⟩ : ∃ y : Int32, y = xs (Int32.toNatClampNeg (nI i + 2)) := ⟨_, rfl⟩
  refine lv_aload_n hC.1 hC.2.1 dL_law_341 rfl (lv_at hl 1 rfl) ?_
  refine lv_aload_n hC.1 hC.2.1 dL_law_342 rfl (lv_at hl 0 rfl) ?_
  refine lv_iload_n hC.1 hC.2.1 dL_law_343 rfl (lv_at hl 3 rfl) ?_
  refine lv_iconst (v := 1) hC.1 hC.2.1 dL_law_344 (by decide) ?_
  refine lv_iadd hC.1 hC.2.1 dL_law_345 ?_
  refine va_sld hC.1 hC.2.1 hX hbl hbA hW.2.2.2.1 hi1 dL_law_346 ?_
  refine lv_nmi ea1 ?_
  refine lv_aload_n hC.1 hC.2.1 dL_law_347 rfl (lv_at hl 0 rfl) ?_
  refine lv_iload_n hC.1 hC.2.1 dL_law_348 rfl (lv_at hl 3 rfl) ?_
  refine lv_iconst (v := 2) hC.1 hC.2.1 dL_law_349 (by decide) ?_
  refine lv_iadd hC.1 hC.2.1 dL_law_350 ?_
  refine va_sld hC.1 hC.2.1 hX hbl hbA hW.2.2.2.1 hi2 dL_law_351 ?_
  refine lv_nmi ea2 ?_
  obtain ⟨r, sm1, hf11, hf12, hI1⟩ := hS cs sm a1 a2 hI 
  refine g_calliV (w' := AW cy u gi cs aM sm) hC hW (c11_guest l D cy ad (u 0) (u 3) (u 1) (u 8) (u 9) (u 15) (u 16) (u 10) (u 5) (u 6) (u 7) (u 11) (u 12) (u 13) (u 14) hf11) (cwV 2 hC.2.2.2.2.1 gL_law_X11_guest rfl rfl rfl hdV11_guest ⟨Nat.le_of_ble_eq_true rfl, Nat.le_of_ble_eq_true rfl⟩) (Sub.takeL _ _ (Sub.skipL _ (Sub.skipL _ (Sub.skipL _ (Sub.skipL _ (Sub.skipL _ (Sub.skipL _ (Sub.skipL _ (Sub.takeLast _ _ _))))))))) 0 10 rfl rfl rfl rfl hl.1 rfl (Nat.le_of_ble_eq_true rfl) dL_law_352 lwRm (fun H locs hW => ?_)
  refine lv_aload_n hC.1 hC.2.1 dL_law_355 rfl (lv_at hl 2 rfl) ?_
  refine lv_aload_n hC.1 hC.2.1 dL_law_356 rfl (lv_at hl 0 rfl) ?_
  refine lv_iload_n hC.1 hC.2.1 dL_law_357 rfl (lv_at hl 3 rfl) ?_
  refine lv_iconst (v := 1) hC.1 hC.2.1 dL_law_358 (by decide) ?_
  refine lv_iadd hC.1 hC.2.1 dL_law_359 ?_
  refine va_sld hC.1 hC.2.1 hX hbl hbA hW.2.2.2.1 hi1 dL_law_360 ?_
  refine lv_nmi ea1 ?_
  refine lv_aload_n hC.1 hC.2.1 dL_law_361 rfl (lv_at hl 0 rfl) ?_
  refine lv_iload_n hC.1 hC.2.1 dL_law_362 rfl (lv_at hl 3 rfl) ?_
  refine lv_iconst (v := 2) hC.1 hC.2.1 dL_law_363 (by decide) ?_
  refine lv_iadd hC.1 hC.2.1 dL_law_364 ?_
  refine va_sld hC.1 hC.2.1 hX hbl hbA hW.2.2.2.1 hi2 dL_law_365 ?_
  refine lv_nmi ea2 ?_
  refine g_calliV (w' := AW cy u gi cs aM sm1) hC hW (c12_guest l D cy ad aM hf12) (cwV 2 hC.2.2.2.2.1 gL_law_X12_guest rfl rfl rfl hdV12_guest ⟨Nat.le_of_ble_eq_true rfl, Nat.le_of_ble_eq_true rfl⟩) (Sub.skipL _ (Sub.skipL _ (Sub.skipL _ (Sub.skipL _ (Sub.skipL _ (Sub.skipL _ (Sub.skipL _ (Sub.skipL _ (Sub.skipL _ (Sub.skipL _ (Sub.skipL _ (Sub.skipL _ (Sub.skipL _ (Sub.skipL _ (Sub.skipL _ (Sub.skipL _ (Sub.skipL _ (Sub.all _ _)))))))))))))))))) 0 11 rfl rfl rfl rfl hl.1 rfl (Nat.le_of_ble_eq_true rfl) dL_law_366 lwRm (fun H locs hW => ?_)
  refine lv_icmp_eq (tgt := 1165) hC.1 hC.2.1 dL_law_369 (by decide) (fun _ => ?_) (fun hc => absurd rfl hc)
  exact next _ _ u gi H locs ls hI1 hW hl
set_option maxRecDepth 100000 in
set_option maxHeartbeats 8000000 in
theorem law_shows (hC : Cx p s m #[Value.ref b] meth c code 4 wsL_law RL ret) (hX : va_X b L xs s s.heap) (hbl : b < s.heap.size) (hbA : ¬ A b) (hL : L ≤ 3584) (hi : i + 7 ≤ L) (hS : St_shows Inv) (next : ∀ (cs : Nat → Ob) (sm : Ob) (u : Nat → Nat → Nat) (gi : Value) (H : Heap) (locs : List Loc) (ls : Array Slot), Inv cs sm → GW D cy ad (AW cy u gi cs aM sm) A s H locs → lv_has ls 4 [(0, .ref b), (1, .ref (u 0 0)), (2, .ref (aM 0)), (3, .int (nI i))] → W p l e room_1 s m #[Value.ref b] below meth c H locs lwC lwS (lw_Z below #[Value.ref b] s) (F0 m 1165 ls [])) : ∀ (cs : Nat → Ob) (sm : Ob) (u : Nat → Nat → Nat) (gi : Value) (H : Heap) (locs : List Loc) (ls : Array Slot), Inv cs sm → GW D cy ad (AW cy u gi cs aM sm) A s H locs → lv_has ls 4 [(0, .ref b), (1, .ref (u 0 0)), (2, .ref (aM 0)), (3, .int (nI i))] → W p l e room_1 s m #[Value.ref b] below meth c H locs lwC lwS (lw_Z below #[Value.ref b] s) (F0 m 374 ls []) := by
  intro cs sm u gi H locs ls hI hW hl
  have hi1 : vp_in (nI i + 1) L := lw_in (j := 1) (by omega) (by omega)
  obtain ⟨a1, ea1⟩ : ∃ y : Int32, y = xs (Int32.toNatClampNeg (nI i + 1)) := ⟨_, rfl⟩
  refine lv_aload_n hC.1 hC.2.1 dL_law_374 rfl (lv_at hl 1 rfl) ?_
  refine lv_aload_n hC.1 hC.2.1 dL_law_375 rfl (lv_at hl 0 rfl) ?_
  refine lv_iload_n hC.1 hC.2.1 dL_law_376 rfl (lv_at hl 3 rfl) ?_
  refine lv_iconst (v := 1) hC.1 hC.2.1 dL_law_377 (by decide) ?_
  refine lv_iadd hC.1 hC.2.1 dL_law_378 ?_
  refine va_sld hC.1 hC.2.1 hX hbl hbA hW.2.2.2.1 hi1 dL_law_379 ?_
  refine lv_nmi ea1 ?_
  obtain ⟨r, sm1, hf11, hf12, hI1⟩ := hS cs sm a1 hI 
  refine g_calliV (w' := AW cy u gi cs aM sm) hC hW (c11_shows l D cy ad (u 0) (u 3) (u 1) (u 8) (u 9) (u 15) (u 16) (u 10) (u 5) (u 6) (u 7) (u 11) (u 12) (u 13) (u 14) hf11) (cwV 1 hC.2.2.2.2.1 gL_law_X11_shows rfl rfl rfl hdV11_shows ⟨Nat.le_of_ble_eq_true rfl, Nat.le_of_ble_eq_true rfl⟩) (Sub.takeL _ _ (Sub.skipL _ (Sub.skipL _ (Sub.skipL _ (Sub.skipL _ (Sub.skipL _ (Sub.skipL _ (Sub.skipL _ (Sub.takeLast _ _ _))))))))) 0 10 rfl rfl rfl rfl hl.1 rfl (Nat.le_of_ble_eq_true rfl) dL_law_380 lwRm (fun H locs hW => ?_)
  refine lv_aload_n hC.1 hC.2.1 dL_law_383 rfl (lv_at hl 2 rfl) ?_
  refine lv_aload_n hC.1 hC.2.1 dL_law_384 rfl (lv_at hl 0 rfl) ?_
  refine lv_iload_n hC.1 hC.2.1 dL_law_385 rfl (lv_at hl 3 rfl) ?_
  refine lv_iconst (v := 1) hC.1 hC.2.1 dL_law_386 (by decide) ?_
  refine lv_iadd hC.1 hC.2.1 dL_law_387 ?_
  refine va_sld hC.1 hC.2.1 hX hbl hbA hW.2.2.2.1 hi1 dL_law_388 ?_
  refine lv_nmi ea1 ?_
  refine g_calliV (w' := AW cy u gi cs aM sm1) hC hW (c12_shows l D cy ad aM hf12) (cwV 1 hC.2.2.2.2.1 gL_law_X12_shows rfl rfl rfl hdV12_shows ⟨Nat.le_of_ble_eq_true rfl, Nat.le_of_ble_eq_true rfl⟩) (Sub.skipL _ (Sub.skipL _ (Sub.skipL _ (Sub.skipL _ (Sub.skipL _ (Sub.skipL _ (Sub.skipL _ (Sub.skipL _ (Sub.skipL _ (Sub.skipL _ (Sub.skipL _ (Sub.skipL _ (Sub.skipL _ (Sub.skipL _ (Sub.skipL _ (Sub.skipL _ (Sub.skipL _ (Sub.all _ _)))))))))))))))))) 0 11 rfl rfl rfl rfl hl.1 rfl (Nat.le_of_ble_eq_true rfl) dL_law_389 lwRm (fun H locs hW => ?_)
  refine lv_icmp_eq (tgt := 1165) hC.1 hC.2.1 dL_law_392 (by decide) (fun _ => ?_) (fun hc => absurd rfl hc)
  exact next _ _ u gi H locs ls hI1 hW hl
set_option maxRecDepth 100000 in
set_option maxHeartbeats 8000000 in
theorem law_left (hC : Cx p s m #[Value.ref b] meth c code 4 wsL_law RL ret) (hX : va_X b L xs s s.heap) (hbl : b < s.heap.size) (hbA : ¬ A b) (hL : L ≤ 3584) (hi : i + 7 ≤ L) (hS : St_left Inv) (next : ∀ (cs : Nat → Ob) (sm : Ob) (u : Nat → Nat → Nat) (gi : Value) (H : Heap) (locs : List Loc) (ls : Array Slot), Inv cs sm → GW D cy ad (AW cy u gi cs aM sm) A s H locs → lv_has ls 4 [(0, .ref b), (1, .ref (u 0 0)), (2, .ref (aM 0)), (3, .int (nI i))] → W p l e room_1 s m #[Value.ref b] below meth c H locs lwC lwS (lw_Z below #[Value.ref b] s) (F0 m 1165 ls [])) : ∀ (cs : Nat → Ob) (sm : Ob) (u : Nat → Nat → Nat) (gi : Value) (H : Heap) (locs : List Loc) (ls : Array Slot), Inv cs sm → GW D cy ad (AW cy u gi cs aM sm) A s H locs → lv_has ls 4 [(0, .ref b), (1, .ref (u 0 0)), (2, .ref (aM 0)), (3, .int (nI i))] → W p l e room_1 s m #[Value.ref b] below meth c H locs lwC lwS (lw_Z below #[Value.ref b] s) (F0 m 397 ls []) := by
  intro cs sm u gi H locs ls hI hW hl
  refine lv_aload_n hC.1 hC.2.1 dL_law_397 rfl (lv_at hl 1 rfl) ?_
  obtain ⟨r, sm1, hf11, hf12, hI1⟩ := hS cs sm  hI 
  refine g_calliV (w' := AW cy u gi cs aM sm) hC hW (c11_left l D cy ad (u 0) (u 3) (u 1) (u 8) (u 9) (u 15) (u 16) (u 10) (u 5) (u 6) (u 7) (u 11) (u 12) (u 13) (u 14) hf11) (cwV 0 hC.2.2.2.2.1 gL_law_X11_left rfl rfl rfl hdV11_left ⟨Nat.le_of_ble_eq_true rfl, Nat.le_of_ble_eq_true rfl⟩) (Sub.takeL _ _ (Sub.skipL _ (Sub.skipL _ (Sub.skipL _ (Sub.skipL _ (Sub.skipL _ (Sub.skipL _ (Sub.skipL _ (Sub.skipL _ (Sub.skipL _ (Sub.takeLast _ _ _))))))))))) 0 10 rfl rfl rfl rfl hl.1 rfl (Nat.le_of_ble_eq_true rfl) dL_law_398 lwRm (fun H locs hW => ?_)
  refine lv_aload_n hC.1 hC.2.1 dL_law_401 rfl (lv_at hl 2 rfl) ?_
  refine g_calliV (w' := AW cy u gi cs aM sm1) hC hW (c12_left l D cy ad aM hf12) (cwV 0 hC.2.2.2.2.1 gL_law_X12_left rfl rfl rfl hdV12_left ⟨Nat.le_of_ble_eq_true rfl, Nat.le_of_ble_eq_true rfl⟩) (Sub.skipL _ (Sub.skipL _ (Sub.skipL _ (Sub.skipL _ (Sub.skipL _ (Sub.skipL _ (Sub.skipL _ (Sub.skipL _ (Sub.skipL _ (Sub.skipL _ (Sub.skipL _ (Sub.skipL _ (Sub.skipL _ (Sub.skipL _ (Sub.skipL _ (Sub.skipL _ (Sub.skipL _ (Sub.all _ _)))))))))))))))))) 0 11 rfl rfl rfl rfl hl.1 rfl (Nat.le_of_ble_eq_true rfl) dL_law_402 lwRm (fun H locs hW => ?_)
  refine lv_icmp_eq (tgt := 1165) hC.1 hC.2.1 dL_law_405 (by decide) (fun _ => ?_) (fun hc => absurd rfl hc)
  exact next _ _ u gi H locs ls hI1 hW hl
set_option maxRecDepth 100000 in
set_option maxHeartbeats 8000000 in
theorem law_answer (hC : Cx p s m #[Value.ref b] meth c code 4 wsL_law RL ret) (hX : va_X b L xs s s.heap) (hbl : b < s.heap.size) (hbA : ¬ A b) (hL : L ≤ 3584) (hi : i + 7 ≤ L) (hS : St_answer Inv) (next : ∀ (cs : Nat → Ob) (sm : Ob) (u : Nat → Nat → Nat) (gi : Value) (H : Heap) (locs : List Loc) (ls : Array Slot), Inv cs sm → GW D cy ad (AW cy u gi cs aM sm) A s H locs → lv_has ls 4 [(0, .ref b), (1, .ref (u 0 0)), (2, .ref (aM 0)), (3, .int (nI i))] → W p l e room_1 s m #[Value.ref b] below meth c H locs lwC lwS (lw_Z below #[Value.ref b] s) (F0 m 1165 ls [])) : ∀ (cs : Nat → Ob) (sm : Ob) (u : Nat → Nat → Nat) (gi : Value) (H : Heap) (locs : List Loc) (ls : Array Slot), Inv cs sm → GW D cy ad (AW cy u gi cs aM sm) A s H locs → lv_has ls 4 [(0, .ref b), (1, .ref (u 0 0)), (2, .ref (aM 0)), (3, .int (nI i))] → W p l e room_1 s m #[Value.ref b] below meth c H locs lwC lwS (lw_Z below #[Value.ref b] s) (F0 m 410 ls []) := by
  intro cs sm u gi H locs ls hI hW hl
  have hi1 : vp_in (nI i + 1) L := lw_in (j := 1) (by omega) (by omega)
  obtain ⟨a1, ea1⟩ : ∃ y : Int32, y = xs (Int32.toNatClampNeg (nI i + 1)) := ⟨_, rfl⟩
  have hi2 : vp_in (nI i + 2) L := lw_in (j := 2) (by omega) (by omega)
  obtain ⟨a2, ea2⟩ : ∃ y : Int32, y = xs (Int32.toNatClampNeg (nI i + 2)) := ⟨_, rfl⟩
  have hi3 : vp_in (nI i + 3) L := lw_in (j := 3) (by omega) (by omega)
  obtain ⟨a3, ea3⟩ : ∃ y : Int32, y = xs (Int32.toNatClampNeg (nI i + 3)) := ⟨_, rfl⟩
  refine lv_aload_n hC.1 hC.2.1 dL_law_410 rfl (lv_at hl 1 rfl) ?_
  refine lv_aload_n hC.1 hC.2.1 dL_law_411 rfl (lv_at hl 0 rfl) ?_
  refine lv_iload_n hC.1 hC.2.1 dL_law_412 rfl (lv_at hl 3 rfl) ?_
  refine lv_iconst (v := 1) hC.1 hC.2.1 dL_law_413 (by decide) ?_
  refine lv_iadd hC.1 hC.2.1 dL_law_414 ?_
  refine va_sld hC.1 hC.2.1 hX hbl hbA hW.2.2.2.1 hi1 dL_law_415 ?_
  refine lv_nmi ea1 ?_
  refine lv_aload_n hC.1 hC.2.1 dL_law_416 rfl (lv_at hl 0 rfl) ?_
  refine lv_iload_n hC.1 hC.2.1 dL_law_417 rfl (lv_at hl 3 rfl) ?_
  refine lv_iconst (v := 2) hC.1 hC.2.1 dL_law_418 (by decide) ?_
  refine lv_iadd hC.1 hC.2.1 dL_law_419 ?_
  refine va_sld hC.1 hC.2.1 hX hbl hbA hW.2.2.2.1 hi2 dL_law_420 ?_
  refine lv_nmi ea2 ?_
  refine lv_aload_n hC.1 hC.2.1 dL_law_421 rfl (lv_at hl 0 rfl) ?_
  refine lv_iload_n hC.1 hC.2.1 dL_law_422 rfl (lv_at hl 3 rfl) ?_
  refine lv_iconst (v := 3) hC.1 hC.2.1 dL_law_423 (by decide) ?_
  refine lv_iadd hC.1 hC.2.1 dL_law_424 ?_
  refine va_sld hC.1 hC.2.1 hX hbl hbA hW.2.2.2.1 hi3 dL_law_425 ?_
  refine lv_nmi ea3 ?_
  refine lv_if_eq (tgt := 433) hC.1 hC.2.1 dL_law_426 (by decide) (fun hz1 => ?_) (fun hz1 => ?_)
  · refine lv_iconst (v := 0) hC.1 hC.2.1 dL_law_433 (by decide) ?_
    obtain ⟨r, SB, sm1, hf11, hf12, hI1⟩ := hS cs sm a1 a2 0 hI (Or.inl rfl)
    refine g_calliV (w' := AW cy u gi (va_up cs 10 SB) aM sm) hC hW (c11_answer l D cy ad (u 0) (u 3) (u 1) (u 8) (u 9) (u 15) (u 16) (u 10) (u 5) (u 6) (u 7) (u 11) (u 12) (u 13) (u 14) hf11) (cwV 3 hC.2.2.2.2.1 gL_law_X11_answer rfl rfl rfl hdV11_answer ⟨Nat.le_of_ble_eq_true rfl, Nat.le_of_ble_eq_true rfl⟩) (Sub.takeL _ _ (Sub.skipL _ (Sub.skipL _ (Sub.skipL _ (Sub.skipL _ (Sub.skipL _ (Sub.skipL _ (Sub.skipL _ (Sub.takeL _ _ (Sub.skipL _ (Sub.takeLast _ _ _))))))))))) 0 10 rfl rfl rfl rfl hl.1 rfl (Nat.le_of_ble_eq_true rfl) dL_law_434 lwRm (fun H locs hW => ?_)
    refine lv_aload_n hC.1 hC.2.1 dL_law_437 rfl (lv_at hl 2 rfl) ?_
    refine lv_aload_n hC.1 hC.2.1 dL_law_438 rfl (lv_at hl 0 rfl) ?_
    refine lv_iload_n hC.1 hC.2.1 dL_law_439 rfl (lv_at hl 3 rfl) ?_
    refine lv_iconst (v := 1) hC.1 hC.2.1 dL_law_440 (by decide) ?_
    refine lv_iadd hC.1 hC.2.1 dL_law_441 ?_
    refine va_sld hC.1 hC.2.1 hX hbl hbA hW.2.2.2.1 hi1 dL_law_442 ?_
    refine lv_nmi ea1 ?_
    refine lv_aload_n hC.1 hC.2.1 dL_law_443 rfl (lv_at hl 0 rfl) ?_
    refine lv_iload_n hC.1 hC.2.1 dL_law_444 rfl (lv_at hl 3 rfl) ?_
    refine lv_iconst (v := 2) hC.1 hC.2.1 dL_law_445 (by decide) ?_
    refine lv_iadd hC.1 hC.2.1 dL_law_446 ?_
    refine va_sld hC.1 hC.2.1 hX hbl hbA hW.2.2.2.1 hi2 dL_law_447 ?_
    refine lv_nmi ea2 ?_
    refine lv_aload_n hC.1 hC.2.1 dL_law_448 rfl (lv_at hl 0 rfl) ?_
    refine lv_iload_n hC.1 hC.2.1 dL_law_449 rfl (lv_at hl 3 rfl) ?_
    refine lv_iconst (v := 3) hC.1 hC.2.1 dL_law_450 (by decide) ?_
    refine lv_iadd hC.1 hC.2.1 dL_law_451 ?_
    refine va_sld hC.1 hC.2.1 hX hbl hbA hW.2.2.2.1 hi3 dL_law_452 ?_
    refine lv_nmi ea3 ?_
    refine lv_if_eq (tgt := 460) hC.1 hC.2.1 dL_law_453 (by decide) (fun _ => ?_) (fun hc => absurd hz1 hc)
    refine lv_iconst (v := 0) hC.1 hC.2.1 dL_law_460 (by decide) ?_
    refine g_calliV (w' := AW cy u gi (va_up cs 10 SB) aM sm1) hC hW (c12_answer l D cy ad aM hf12) (cwV 3 hC.2.2.2.2.1 gL_law_X12_answer rfl rfl rfl hdV12_answer ⟨Nat.le_of_ble_eq_true rfl, Nat.le_of_ble_eq_true rfl⟩) (Sub.skipL _ (Sub.skipL _ (Sub.skipL _ (Sub.skipL _ (Sub.skipL _ (Sub.skipL _ (Sub.skipL _ (Sub.skipL _ (Sub.skipL _ (Sub.skipL _ (Sub.skipL _ (Sub.skipL _ (Sub.skipL _ (Sub.skipL _ (Sub.skipL _ (Sub.skipL _ (Sub.skipL _ (Sub.all _ _)))))))))))))))))) 0 11 rfl rfl rfl rfl hl.1 rfl (Nat.le_of_ble_eq_true rfl) dL_law_461 lwRm (fun H locs hW => ?_)
    refine lv_icmp_eq (tgt := 1165) hC.1 hC.2.1 dL_law_464 (by decide) (fun _ => ?_) (fun hc => absurd rfl hc)
    exact next _ _ u gi H locs ls hI1 hW hl
  · refine lv_iconst (v := 1) hC.1 hC.2.1 dL_law_429 (by decide) ?_
    refine lv_goto (tgt := 434) hC.1 hC.2.1 dL_law_430 (by decide) ?_
    obtain ⟨r, SB, sm1, hf11, hf12, hI1⟩ := hS cs sm a1 a2 1 hI (Or.inr rfl)
    refine g_calliV (w' := AW cy u gi (va_up cs 10 SB) aM sm) hC hW (c11_answer l D cy ad (u 0) (u 3) (u 1) (u 8) (u 9) (u 15) (u 16) (u 10) (u 5) (u 6) (u 7) (u 11) (u 12) (u 13) (u 14) hf11) (cwV 3 hC.2.2.2.2.1 gL_law_X11_answer rfl rfl rfl hdV11_answer ⟨Nat.le_of_ble_eq_true rfl, Nat.le_of_ble_eq_true rfl⟩) (Sub.takeL _ _ (Sub.skipL _ (Sub.skipL _ (Sub.skipL _ (Sub.skipL _ (Sub.skipL _ (Sub.skipL _ (Sub.skipL _ (Sub.takeL _ _ (Sub.skipL _ (Sub.takeLast _ _ _))))))))))) 0 10 rfl rfl rfl rfl hl.1 rfl (Nat.le_of_ble_eq_true rfl) dL_law_434 lwRm (fun H locs hW => ?_)
    refine lv_aload_n hC.1 hC.2.1 dL_law_437 rfl (lv_at hl 2 rfl) ?_
    refine lv_aload_n hC.1 hC.2.1 dL_law_438 rfl (lv_at hl 0 rfl) ?_
    refine lv_iload_n hC.1 hC.2.1 dL_law_439 rfl (lv_at hl 3 rfl) ?_
    refine lv_iconst (v := 1) hC.1 hC.2.1 dL_law_440 (by decide) ?_
    refine lv_iadd hC.1 hC.2.1 dL_law_441 ?_
    refine va_sld hC.1 hC.2.1 hX hbl hbA hW.2.2.2.1 hi1 dL_law_442 ?_
    refine lv_nmi ea1 ?_
    refine lv_aload_n hC.1 hC.2.1 dL_law_443 rfl (lv_at hl 0 rfl) ?_
    refine lv_iload_n hC.1 hC.2.1 dL_law_444 rfl (lv_at hl 3 rfl) ?_
    refine lv_iconst (v := 2) hC.1 hC.2.1 dL_law_445 (by decide) ?_
    refine lv_iadd hC.1 hC.2.1 dL_law_446 ?_
    refine va_sld hC.1 hC.2.1 hX hbl hbA hW.2.2.2.1 hi2 dL_law_447 ?_
    refine lv_nmi ea2 ?_
    refine lv_aload_n hC.1 hC.2.1 dL_law_448 rfl (lv_at hl 0 rfl) ?_
    refine lv_iload_n hC.1 hC.2.1 dL_law_449 rfl (lv_at hl 3 rfl) ?_
    refine lv_iconst (v := 3) hC.1 hC.2.1 dL_law_450 (by decide) ?_
    refine lv_iadd hC.1 hC.2.1 dL_law_451 ?_
    refine va_sld hC.1 hC.2.1 hX hbl hbA hW.2.2.2.1 hi3 dL_law_452 ?_
    refine lv_nmi ea3 ?_
    refine lv_if_eq (tgt := 460) hC.1 hC.2.1 dL_law_453 (by decide) (fun hc => absurd hc hz1) (fun _ => ?_)
    refine lv_iconst (v := 1) hC.1 hC.2.1 dL_law_456 (by decide) ?_
    refine lv_goto (tgt := 461) hC.1 hC.2.1 dL_law_457 (by decide) ?_
    refine g_calliV (w' := AW cy u gi (va_up cs 10 SB) aM sm1) hC hW (c12_answer l D cy ad aM hf12) (cwV 3 hC.2.2.2.2.1 gL_law_X12_answer rfl rfl rfl hdV12_answer ⟨Nat.le_of_ble_eq_true rfl, Nat.le_of_ble_eq_true rfl⟩) (Sub.skipL _ (Sub.skipL _ (Sub.skipL _ (Sub.skipL _ (Sub.skipL _ (Sub.skipL _ (Sub.skipL _ (Sub.skipL _ (Sub.skipL _ (Sub.skipL _ (Sub.skipL _ (Sub.skipL _ (Sub.skipL _ (Sub.skipL _ (Sub.skipL _ (Sub.skipL _ (Sub.skipL _ (Sub.all _ _)))))))))))))))))) 0 11 rfl rfl rfl rfl hl.1 rfl (Nat.le_of_ble_eq_true rfl) dL_law_461 lwRm (fun H locs hW => ?_)
    refine lv_icmp_eq (tgt := 1165) hC.1 hC.2.1 dL_law_464 (by decide) (fun _ => ?_) (fun hc => absurd rfl hc)
    exact next _ _ u gi H locs ls hI1 hW hl
set_option maxRecDepth 100000 in
set_option maxHeartbeats 8000000 in
theorem law_sign (hC : Cx p s m #[Value.ref b] meth c code 4 wsL_law RL ret) (hX : va_X b L xs s s.heap) (hbl : b < s.heap.size) (hbA : ¬ A b) (hL : L ≤ 3584) (hi : i + 7 ≤ L) (hS : St_sign Inv) (next : ∀ (cs : Nat → Ob) (sm : Ob) (u : Nat → Nat → Nat) (gi : Value) (H : Heap) (locs : List Loc) (ls : Array Slot), Inv cs sm → GW D cy ad (AW cy u gi cs aM sm) A s H locs → lv_has ls 4 [(0, .ref b), (1, .ref (u 0 0)), (2, .ref (aM 0)), (3, .int (nI i))] → W p l e room_1 s m #[Value.ref b] below meth c H locs lwC lwS (lw_Z below #[Value.ref b] s) (F0 m 1165 ls [])) : ∀ (cs : Nat → Ob) (sm : Ob) (u : Nat → Nat → Nat) (gi : Value) (H : Heap) (locs : List Loc) (ls : Array Slot), Inv cs sm → GW D cy ad (AW cy u gi cs aM sm) A s H locs → lv_has ls 4 [(0, .ref b), (1, .ref (u 0 0)), (2, .ref (aM 0)), (3, .int (nI i))] → W p l e room_1 s m #[Value.ref b] below meth c H locs lwC lwS (lw_Z below #[Value.ref b] s) (F0 m 469 ls []) := by
  intro cs sm u gi H locs ls hI hW hl
  have hi1 : vp_in (nI i + 1) L := lw_in (j := 1) (by omega) (by omega)
  obtain ⟨a1, ea1⟩ : ∃ y : Int32, y = xs (Int32.toNatClampNeg (nI i + 1)) := ⟨_, rfl⟩
  have hi2 : vp_in (nI i + 2) L := lw_in (j := 2) (by omega) (by omega)
  obtain ⟨a2, ea2⟩ : ∃ y : Int32, y = xs (Int32.toNatClampNeg (nI i + 2)) := ⟨_, rfl⟩
  refine lv_aload_n hC.1 hC.2.1 dL_law_469 rfl (lv_at hl 1 rfl) ?_
  refine lv_aload_n hC.1 hC.2.1 dL_law_470 rfl (lv_at hl 0 rfl) ?_
  refine lv_iload_n hC.1 hC.2.1 dL_law_471 rfl (lv_at hl 3 rfl) ?_
  refine lv_iconst (v := 1) hC.1 hC.2.1 dL_law_472 (by decide) ?_
  refine lv_iadd hC.1 hC.2.1 dL_law_473 ?_
  refine va_sld hC.1 hC.2.1 hX hbl hbA hW.2.2.2.1 hi1 dL_law_474 ?_
  refine lv_nmi ea1 ?_
  refine lv_aload_n hC.1 hC.2.1 dL_law_475 rfl (lv_at hl 0 rfl) ?_
  refine lv_iload_n hC.1 hC.2.1 dL_law_476 rfl (lv_at hl 3 rfl) ?_
  refine lv_iconst (v := 2) hC.1 hC.2.1 dL_law_477 (by decide) ?_
  refine lv_iadd hC.1 hC.2.1 dL_law_478 ?_
  refine va_sld hC.1 hC.2.1 hX hbl hbA hW.2.2.2.1 hi2 dL_law_479 ?_
  refine lv_nmi ea2 ?_
  refine lv_if_eq (tgt := 487) hC.1 hC.2.1 dL_law_480 (by decide) (fun hz1 => ?_) (fun hz1 => ?_)
  · refine lv_iconst (v := 0) hC.1 hC.2.1 dL_law_487 (by decide) ?_
    obtain ⟨r, SB, sm1, hf11, hf12, hI1⟩ := hS cs sm a1 0 hI (Or.inl rfl)
    refine g_calliV (w' := AW cy u gi (va_up cs 10 SB) aM sm) hC hW (c11_sign l D cy ad (u 0) (u 3) (u 1) (u 8) (u 9) (u 15) (u 16) (u 10) (u 5) (u 6) (u 7) (u 11) (u 12) (u 13) (u 14) hf11) (cwV 2 hC.2.2.2.2.1 gL_law_X11_sign rfl rfl rfl hdV11_sign ⟨Nat.le_of_ble_eq_true rfl, Nat.le_of_ble_eq_true rfl⟩) (Sub.takeL _ _ (Sub.skipL _ (Sub.skipL _ (Sub.skipL _ (Sub.skipL _ (Sub.skipL _ (Sub.skipL _ (Sub.skipL _ (Sub.takeL _ _ (Sub.skipL _ (Sub.takeLast _ _ _))))))))))) 0 10 rfl rfl rfl rfl hl.1 rfl (Nat.le_of_ble_eq_true rfl) dL_law_488 lwRm (fun H locs hW => ?_)
    refine lv_aload_n hC.1 hC.2.1 dL_law_491 rfl (lv_at hl 2 rfl) ?_
    refine lv_aload_n hC.1 hC.2.1 dL_law_492 rfl (lv_at hl 0 rfl) ?_
    refine lv_iload_n hC.1 hC.2.1 dL_law_493 rfl (lv_at hl 3 rfl) ?_
    refine lv_iconst (v := 1) hC.1 hC.2.1 dL_law_494 (by decide) ?_
    refine lv_iadd hC.1 hC.2.1 dL_law_495 ?_
    refine va_sld hC.1 hC.2.1 hX hbl hbA hW.2.2.2.1 hi1 dL_law_496 ?_
    refine lv_nmi ea1 ?_
    refine lv_aload_n hC.1 hC.2.1 dL_law_497 rfl (lv_at hl 0 rfl) ?_
    refine lv_iload_n hC.1 hC.2.1 dL_law_498 rfl (lv_at hl 3 rfl) ?_
    refine lv_iconst (v := 2) hC.1 hC.2.1 dL_law_499 (by decide) ?_
    refine lv_iadd hC.1 hC.2.1 dL_law_500 ?_
    refine va_sld hC.1 hC.2.1 hX hbl hbA hW.2.2.2.1 hi2 dL_law_501 ?_
    refine lv_nmi ea2 ?_
    refine lv_if_eq (tgt := 509) hC.1 hC.2.1 dL_law_502 (by decide) (fun _ => ?_) (fun hc => absurd hz1 hc)
    refine lv_iconst (v := 0) hC.1 hC.2.1 dL_law_509 (by decide) ?_
    refine g_calliV (w' := AW cy u gi (va_up cs 10 SB) aM sm1) hC hW (c12_sign l D cy ad aM hf12) (cwV 2 hC.2.2.2.2.1 gL_law_X12_sign rfl rfl rfl hdV12_sign ⟨Nat.le_of_ble_eq_true rfl, Nat.le_of_ble_eq_true rfl⟩) (Sub.skipL _ (Sub.skipL _ (Sub.skipL _ (Sub.skipL _ (Sub.skipL _ (Sub.skipL _ (Sub.skipL _ (Sub.skipL _ (Sub.skipL _ (Sub.skipL _ (Sub.skipL _ (Sub.skipL _ (Sub.skipL _ (Sub.skipL _ (Sub.skipL _ (Sub.skipL _ (Sub.skipL _ (Sub.all _ _)))))))))))))))))) 0 11 rfl rfl rfl rfl hl.1 rfl (Nat.le_of_ble_eq_true rfl) dL_law_510 lwRm (fun H locs hW => ?_)
    refine lv_icmp_eq (tgt := 1165) hC.1 hC.2.1 dL_law_513 (by decide) (fun _ => ?_) (fun hc => absurd rfl hc)
    exact next _ _ u gi H locs ls hI1 hW hl
  · refine lv_iconst (v := 1) hC.1 hC.2.1 dL_law_483 (by decide) ?_
    refine lv_goto (tgt := 488) hC.1 hC.2.1 dL_law_484 (by decide) ?_
    obtain ⟨r, SB, sm1, hf11, hf12, hI1⟩ := hS cs sm a1 1 hI (Or.inr rfl)
    refine g_calliV (w' := AW cy u gi (va_up cs 10 SB) aM sm) hC hW (c11_sign l D cy ad (u 0) (u 3) (u 1) (u 8) (u 9) (u 15) (u 16) (u 10) (u 5) (u 6) (u 7) (u 11) (u 12) (u 13) (u 14) hf11) (cwV 2 hC.2.2.2.2.1 gL_law_X11_sign rfl rfl rfl hdV11_sign ⟨Nat.le_of_ble_eq_true rfl, Nat.le_of_ble_eq_true rfl⟩) (Sub.takeL _ _ (Sub.skipL _ (Sub.skipL _ (Sub.skipL _ (Sub.skipL _ (Sub.skipL _ (Sub.skipL _ (Sub.skipL _ (Sub.takeL _ _ (Sub.skipL _ (Sub.takeLast _ _ _))))))))))) 0 10 rfl rfl rfl rfl hl.1 rfl (Nat.le_of_ble_eq_true rfl) dL_law_488 lwRm (fun H locs hW => ?_)
    refine lv_aload_n hC.1 hC.2.1 dL_law_491 rfl (lv_at hl 2 rfl) ?_
    refine lv_aload_n hC.1 hC.2.1 dL_law_492 rfl (lv_at hl 0 rfl) ?_
    refine lv_iload_n hC.1 hC.2.1 dL_law_493 rfl (lv_at hl 3 rfl) ?_
    refine lv_iconst (v := 1) hC.1 hC.2.1 dL_law_494 (by decide) ?_
    refine lv_iadd hC.1 hC.2.1 dL_law_495 ?_
    refine va_sld hC.1 hC.2.1 hX hbl hbA hW.2.2.2.1 hi1 dL_law_496 ?_
    refine lv_nmi ea1 ?_
    refine lv_aload_n hC.1 hC.2.1 dL_law_497 rfl (lv_at hl 0 rfl) ?_
    refine lv_iload_n hC.1 hC.2.1 dL_law_498 rfl (lv_at hl 3 rfl) ?_
    refine lv_iconst (v := 2) hC.1 hC.2.1 dL_law_499 (by decide) ?_
    refine lv_iadd hC.1 hC.2.1 dL_law_500 ?_
    refine va_sld hC.1 hC.2.1 hX hbl hbA hW.2.2.2.1 hi2 dL_law_501 ?_
    refine lv_nmi ea2 ?_
    refine lv_if_eq (tgt := 509) hC.1 hC.2.1 dL_law_502 (by decide) (fun hc => absurd hc hz1) (fun _ => ?_)
    refine lv_iconst (v := 1) hC.1 hC.2.1 dL_law_505 (by decide) ?_
    refine lv_goto (tgt := 510) hC.1 hC.2.1 dL_law_506 (by decide) ?_
    refine g_calliV (w' := AW cy u gi (va_up cs 10 SB) aM sm1) hC hW (c12_sign l D cy ad aM hf12) (cwV 2 hC.2.2.2.2.1 gL_law_X12_sign rfl rfl rfl hdV12_sign ⟨Nat.le_of_ble_eq_true rfl, Nat.le_of_ble_eq_true rfl⟩) (Sub.skipL _ (Sub.skipL _ (Sub.skipL _ (Sub.skipL _ (Sub.skipL _ (Sub.skipL _ (Sub.skipL _ (Sub.skipL _ (Sub.skipL _ (Sub.skipL _ (Sub.skipL _ (Sub.skipL _ (Sub.skipL _ (Sub.skipL _ (Sub.skipL _ (Sub.skipL _ (Sub.skipL _ (Sub.all _ _)))))))))))))))))) 0 11 rfl rfl rfl rfl hl.1 rfl (Nat.le_of_ble_eq_true rfl) dL_law_510 lwRm (fun H locs hW => ?_)
    refine lv_icmp_eq (tgt := 1165) hC.1 hC.2.1 dL_law_513 (by decide) (fun _ => ?_) (fun hc => absurd rfl hc)
    exact next _ _ u gi H locs ls hI1 hW hl
set_option maxRecDepth 100000 in
set_option maxHeartbeats 8000000 in
theorem law_weather (hC : Cx p s m #[Value.ref b] meth c code 4 wsL_law RL ret) (hX : va_X b L xs s s.heap) (hbl : b < s.heap.size) (hbA : ¬ A b) (hL : L ≤ 3584) (hi : i + 7 ≤ L) (hS : St_weather Inv) (next : ∀ (cs : Nat → Ob) (sm : Ob) (u : Nat → Nat → Nat) (gi : Value) (H : Heap) (locs : List Loc) (ls : Array Slot), Inv cs sm → GW D cy ad (AW cy u gi cs aM sm) A s H locs → lv_has ls 4 [(0, .ref b), (1, .ref (u 0 0)), (2, .ref (aM 0)), (3, .int (nI i))] → W p l e room_1 s m #[Value.ref b] below meth c H locs lwC lwS (lw_Z below #[Value.ref b] s) (F0 m 1165 ls [])) : ∀ (cs : Nat → Ob) (sm : Ob) (u : Nat → Nat → Nat) (gi : Value) (H : Heap) (locs : List Loc) (ls : Array Slot), Inv cs sm → GW D cy ad (AW cy u gi cs aM sm) A s H locs → lv_has ls 4 [(0, .ref b), (1, .ref (u 0 0)), (2, .ref (aM 0)), (3, .int (nI i))] → W p l e room_1 s m #[Value.ref b] below meth c H locs lwC lwS (lw_Z below #[Value.ref b] s) (F0 m 518 ls []) := by
  intro cs sm u gi H locs ls hI hW hl
  have hi1 : vp_in (nI i + 1) L := lw_in (j := 1) (by omega) (by omega)
  obtain ⟨a1, ea1⟩ : ∃ y : Int32, y = xs (Int32.toNatClampNeg (nI i + 1)) := ⟨_, rfl⟩
  refine lv_aload_n hC.1 hC.2.1 dL_law_518 rfl (lv_at hl 1 rfl) ?_
  refine lv_aload_n hC.1 hC.2.1 dL_law_519 rfl (lv_at hl 0 rfl) ?_
  refine lv_iload_n hC.1 hC.2.1 dL_law_520 rfl (lv_at hl 3 rfl) ?_
  refine lv_iconst (v := 1) hC.1 hC.2.1 dL_law_521 (by decide) ?_
  refine lv_iadd hC.1 hC.2.1 dL_law_522 ?_
  refine va_sld hC.1 hC.2.1 hX hbl hbA hW.2.2.2.1 hi1 dL_law_523 ?_
  refine lv_nmi ea1 ?_
  obtain ⟨r, SB, sm1, hf11, hf12, hI1⟩ := hS cs sm a1 hI 
  refine g_calliV (w' := AW cy u gi (va_up cs 10 SB) aM sm) hC hW (c11_weather l D cy ad (u 0) (u 3) (u 1) (u 8) (u 9) (u 15) (u 16) (u 10) (u 5) (u 6) (u 7) (u 11) (u 12) (u 13) (u 14) hf11) (cwV 1 hC.2.2.2.2.1 gL_law_X11_weather rfl rfl rfl hdV11_weather ⟨Nat.le_of_ble_eq_true rfl, Nat.le_of_ble_eq_true rfl⟩) (Sub.takeL _ _ (Sub.skipL _ (Sub.skipL _ (Sub.skipL _ (Sub.skipL _ (Sub.skipL _ (Sub.skipL _ (Sub.skipL _ (Sub.takeL _ _ (Sub.skipL _ (Sub.takeLast _ _ _))))))))))) 0 10 rfl rfl rfl rfl hl.1 rfl (Nat.le_of_ble_eq_true rfl) dL_law_524 lwRm (fun H locs hW => ?_)
  refine lv_aload_n hC.1 hC.2.1 dL_law_527 rfl (lv_at hl 2 rfl) ?_
  refine lv_aload_n hC.1 hC.2.1 dL_law_528 rfl (lv_at hl 0 rfl) ?_
  refine lv_iload_n hC.1 hC.2.1 dL_law_529 rfl (lv_at hl 3 rfl) ?_
  refine lv_iconst (v := 1) hC.1 hC.2.1 dL_law_530 (by decide) ?_
  refine lv_iadd hC.1 hC.2.1 dL_law_531 ?_
  refine va_sld hC.1 hC.2.1 hX hbl hbA hW.2.2.2.1 hi1 dL_law_532 ?_
  refine lv_nmi ea1 ?_
  refine g_calliV (w' := AW cy u gi (va_up cs 10 SB) aM sm1) hC hW (c12_weather l D cy ad aM hf12) (cwV 1 hC.2.2.2.2.1 gL_law_X12_weather rfl rfl rfl hdV12_weather ⟨Nat.le_of_ble_eq_true rfl, Nat.le_of_ble_eq_true rfl⟩) (Sub.skipL _ (Sub.skipL _ (Sub.skipL _ (Sub.skipL _ (Sub.skipL _ (Sub.skipL _ (Sub.skipL _ (Sub.skipL _ (Sub.skipL _ (Sub.skipL _ (Sub.skipL _ (Sub.skipL _ (Sub.skipL _ (Sub.skipL _ (Sub.skipL _ (Sub.skipL _ (Sub.skipL _ (Sub.all _ _)))))))))))))))))) 0 11 rfl rfl rfl rfl hl.1 rfl (Nat.le_of_ble_eq_true rfl) dL_law_533 lwRm (fun H locs hW => ?_)
  refine lv_icmp_eq (tgt := 1165) hC.1 hC.2.1 dL_law_536 (by decide) (fun _ => ?_) (fun hc => absurd rfl hc)
  exact next _ _ u gi H locs ls hI1 hW hl
end
