/-! words of the methods that the law calls (written by gen_law.py) -/
theorem lk_233 : Cond.instanceMethod yX11_feed ∈ zall := zall_mem (List.mem_append_right _ (List.mem_of_getElem? (i := 233) (by decide +kernel))) rfl
theorem lk_234 : Cond.selects RX11 yX11_feed yX11_feed ∈ zall := zall_mem (List.mem_append_right _ (List.mem_of_getElem? (i := 234) (by decide +kernel))) rfl
theorem lk_235 : Cond.code yX11_feed cX11_feed 3 (some .int) ∈ zall := zall_mem (List.mem_append_right _ (List.mem_of_getElem? (i := 235) (by decide +kernel))) rfl
theorem lk_1191 : Cond.instanceMethod yX12_feed ∈ zall := zall_mem (List.mem_append_right _ (List.mem_of_getElem? (i := 1191) (by decide +kernel))) rfl
theorem lk_1192 : Cond.selects RX12 yX12_feed yX12_feed ∈ zall := zall_mem (List.mem_append_right _ (List.mem_of_getElem? (i := 1192) (by decide +kernel))) rfl
theorem lk_1193 : Cond.code yX12_feed cX12_feed 2 (some .int) ∈ zall := zall_mem (List.mem_append_right _ (List.mem_of_getElem? (i := 1193) (by decide +kernel))) rfl
theorem lk_280 : Cond.instanceMethod yX11_book ∈ zall := zall_mem (List.mem_append_right _ (List.mem_of_getElem? (i := 280) (by decide +kernel))) rfl
theorem lk_281 : Cond.selects RX11 yX11_book yX11_book ∈ zall := zall_mem (List.mem_append_right _ (List.mem_of_getElem? (i := 281) (by decide +kernel))) rfl
theorem lk_282 : Cond.code yX11_book cX11_book 2 (some .int) ∈ zall := zall_mem (List.mem_append_right _ (List.mem_of_getElem? (i := 282) (by decide +kernel))) rfl
theorem lk_1199 : Cond.instanceMethod yX12_book ∈ zall := zall_mem (List.mem_append_right _ (List.mem_of_getElem? (i := 1199) (by decide +kernel))) rfl
theorem lk_1200 : Cond.selects RX12 yX12_book yX12_book ∈ zall := zall_mem (List.mem_append_right _ (List.mem_of_getElem? (i := 1200) (by decide +kernel))) rfl
theorem lk_1201 : Cond.code yX12_book cX12_book 2 (some .int) ∈ zall := zall_mem (List.mem_append_right _ (List.mem_of_getElem? (i := 1201) (by decide +kernel))) rfl
theorem lk_435 : Cond.instanceMethod yX11_part ∈ zall := zall_mem (List.mem_append_right _ (List.mem_of_getElem? (i := 435) (by decide +kernel))) rfl
theorem lk_436 : Cond.selects RX11 yX11_part yX11_part ∈ zall := zall_mem (List.mem_append_right _ (List.mem_of_getElem? (i := 436) (by decide +kernel))) rfl
theorem lk_437 : Cond.code yX11_part cX11_part 4 (some .int) ∈ zall := zall_mem (List.mem_append_right _ (List.mem_of_getElem? (i := 437) (by decide +kernel))) rfl
theorem lk_1286 : Cond.instanceMethod yX12_part ∈ zall := zall_mem (List.mem_append_right _ (List.mem_of_getElem? (i := 1286) (by decide +kernel))) rfl
theorem lk_1287 : Cond.selects RX12 yX12_part yX12_part ∈ zall := zall_mem (List.mem_append_right _ (List.mem_of_getElem? (i := 1287) (by decide +kernel))) rfl
theorem lk_1288 : Cond.code yX12_part cX12_part 3 (some .int) ∈ zall := zall_mem (List.mem_append_right _ (List.mem_of_getElem? (i := 1288) (by decide +kernel))) rfl
theorem lk_474 : Cond.instanceMethod yX11_guests ∈ zall := zall_mem (List.mem_append_right _ (List.mem_of_getElem? (i := 474) (by decide +kernel))) rfl
theorem lk_475 : Cond.selects RX11 yX11_guests yX11_guests ∈ zall := zall_mem (List.mem_append_right _ (List.mem_of_getElem? (i := 475) (by decide +kernel))) rfl
theorem lk_476 : Cond.code yX11_guests cX11_guests 4 (some .int) ∈ zall := zall_mem (List.mem_append_right _ (List.mem_of_getElem? (i := 476) (by decide +kernel))) rfl
theorem lk_1315 : Cond.instanceMethod yX12_guests ∈ zall := zall_mem (List.mem_append_right _ (List.mem_of_getElem? (i := 1315) (by decide +kernel))) rfl
theorem lk_1316 : Cond.selects RX12 yX12_guests yX12_guests ∈ zall := zall_mem (List.mem_append_right _ (List.mem_of_getElem? (i := 1316) (by decide +kernel))) rfl
theorem lk_1317 : Cond.code yX12_guests cX12_guests 3 (some .int) ∈ zall := zall_mem (List.mem_append_right _ (List.mem_of_getElem? (i := 1317) (by decide +kernel))) rfl
theorem lk_492 : Cond.instanceMethod yX11_house ∈ zall := zall_mem (List.mem_append_right _ (List.mem_of_getElem? (i := 492) (by decide +kernel))) rfl
theorem lk_493 : Cond.selects RX11 yX11_house yX11_house ∈ zall := zall_mem (List.mem_append_right _ (List.mem_of_getElem? (i := 493) (by decide +kernel))) rfl
theorem lk_494 : Cond.code yX11_house cX11_house 3 (some .int) ∈ zall := zall_mem (List.mem_append_right _ (List.mem_of_getElem? (i := 494) (by decide +kernel))) rfl
theorem lk_1330 : Cond.instanceMethod yX12_house ∈ zall := zall_mem (List.mem_append_right _ (List.mem_of_getElem? (i := 1330) (by decide +kernel))) rfl
theorem lk_1331 : Cond.selects RX12 yX12_house yX12_house ∈ zall := zall_mem (List.mem_append_right _ (List.mem_of_getElem? (i := 1331) (by decide +kernel))) rfl
theorem lk_1332 : Cond.code yX12_house cX12_house 5 (some .int) ∈ zall := zall_mem (List.mem_append_right _ (List.mem_of_getElem? (i := 1332) (by decide +kernel))) rfl
theorem lk_504 : Cond.instanceMethod yX11_set ∈ zall := zall_mem (List.mem_append_right _ (List.mem_of_getElem? (i := 504) (by decide +kernel))) rfl
theorem lk_505 : Cond.selects RX11 yX11_set yX11_set ∈ zall := zall_mem (List.mem_append_right _ (List.mem_of_getElem? (i := 505) (by decide +kernel))) rfl
theorem lk_506 : Cond.code yX11_set cX11_set 5 (some .int) ∈ zall := zall_mem (List.mem_append_right _ (List.mem_of_getElem? (i := 506) (by decide +kernel))) rfl
theorem lk_1334 : Cond.instanceMethod yX12_set ∈ zall := zall_mem (List.mem_append_right _ (List.mem_of_getElem? (i := 1334) (by decide +kernel))) rfl
theorem lk_1335 : Cond.selects RX12 yX12_set yX12_set ∈ zall := zall_mem (List.mem_append_right _ (List.mem_of_getElem? (i := 1335) (by decide +kernel))) rfl
theorem lk_1336 : Cond.code yX12_set cX12_set 5 (some .int) ∈ zall := zall_mem (List.mem_append_right _ (List.mem_of_getElem? (i := 1336) (by decide +kernel))) rfl
theorem lk_508 : Cond.instanceMethod yX11_share ∈ zall := zall_mem (List.mem_append_right _ (List.mem_of_getElem? (i := 508) (by decide +kernel))) rfl
theorem lk_509 : Cond.selects RX11 yX11_share yX11_share ∈ zall := zall_mem (List.mem_append_right _ (List.mem_of_getElem? (i := 509) (by decide +kernel))) rfl
theorem lk_510 : Cond.code yX11_share cX11_share 5 (Option.some FieldType.long) ∈ zall := zall_mem (List.mem_append_right _ (List.mem_of_getElem? (i := 510) (by decide +kernel))) rfl
theorem lk_1338 : Cond.instanceMethod yX12_share ∈ zall := zall_mem (List.mem_append_right _ (List.mem_of_getElem? (i := 1338) (by decide +kernel))) rfl
theorem lk_1339 : Cond.selects RX12 yX12_share yX12_share ∈ zall := zall_mem (List.mem_append_right _ (List.mem_of_getElem? (i := 1339) (by decide +kernel))) rfl
theorem lk_1340 : Cond.code yX12_share cX12_share 5 (Option.some FieldType.long) ∈ zall := zall_mem (List.mem_append_right _ (List.mem_of_getElem? (i := 1340) (by decide +kernel))) rfl
theorem lk_525 : Cond.instanceMethod yX11_off ∈ zall := zall_mem (List.mem_append_right _ (List.mem_of_getElem? (i := 525) (by decide +kernel))) rfl
theorem lk_526 : Cond.selects RX11 yX11_off yX11_off ∈ zall := zall_mem (List.mem_append_right _ (List.mem_of_getElem? (i := 526) (by decide +kernel))) rfl
theorem lk_527 : Cond.code yX11_off cX11_off 5 (Option.some FieldType.long) ∈ zall := zall_mem (List.mem_append_right _ (List.mem_of_getElem? (i := 527) (by decide +kernel))) rfl
theorem lk_1349 : Cond.instanceMethod yX12_off ∈ zall := zall_mem (List.mem_append_right _ (List.mem_of_getElem? (i := 1349) (by decide +kernel))) rfl
theorem lk_1350 : Cond.selects RX12 yX12_off yX12_off ∈ zall := zall_mem (List.mem_append_right _ (List.mem_of_getElem? (i := 1350) (by decide +kernel))) rfl
theorem lk_1351 : Cond.code yX12_off cX12_off 4 (Option.some FieldType.long) ∈ zall := zall_mem (List.mem_append_right _ (List.mem_of_getElem? (i := 1351) (by decide +kernel))) rfl
theorem lk_543 : Cond.instanceMethod yX11_best ∈ zall := zall_mem (List.mem_append_right _ (List.mem_of_getElem? (i := 543) (by decide +kernel))) rfl
theorem lk_544 : Cond.selects RX11 yX11_best yX11_best ∈ zall := zall_mem (List.mem_append_right _ (List.mem_of_getElem? (i := 544) (by decide +kernel))) rfl
theorem lk_545 : Cond.code yX11_best cX11_best 4 (some .int) ∈ zall := zall_mem (List.mem_append_right _ (List.mem_of_getElem? (i := 545) (by decide +kernel))) rfl
theorem lk_1361 : Cond.instanceMethod yX12_best ∈ zall := zall_mem (List.mem_append_right _ (List.mem_of_getElem? (i := 1361) (by decide +kernel))) rfl
theorem lk_1362 : Cond.selects RX12 yX12_best yX12_best ∈ zall := zall_mem (List.mem_append_right _ (List.mem_of_getElem? (i := 1362) (by decide +kernel))) rfl
theorem lk_1363 : Cond.code yX12_best cX12_best 6 (some .int) ∈ zall := zall_mem (List.mem_append_right _ (List.mem_of_getElem? (i := 1363) (by decide +kernel))) rfl
theorem lk_551 : Cond.instanceMethod yX11_out ∈ zall := zall_mem (List.mem_append_right _ (List.mem_of_getElem? (i := 551) (by decide +kernel))) rfl
theorem lk_552 : Cond.selects RX11 yX11_out yX11_out ∈ zall := zall_mem (List.mem_append_right _ (List.mem_of_getElem? (i := 552) (by decide +kernel))) rfl
theorem lk_553 : Cond.code yX11_out cX11_out 3 (some .int) ∈ zall := zall_mem (List.mem_append_right _ (List.mem_of_getElem? (i := 553) (by decide +kernel))) rfl
theorem lk_1365 : Cond.instanceMethod yX12_out ∈ zall := zall_mem (List.mem_append_right _ (List.mem_of_getElem? (i := 1365) (by decide +kernel))) rfl
theorem lk_1366 : Cond.selects RX12 yX12_out yX12_out ∈ zall := zall_mem (List.mem_append_right _ (List.mem_of_getElem? (i := 1366) (by decide +kernel))) rfl
theorem lk_1367 : Cond.code yX12_out cX12_out 4 (some .int) ∈ zall := zall_mem (List.mem_append_right _ (List.mem_of_getElem? (i := 1367) (by decide +kernel))) rfl
theorem lk_563 : Cond.instanceMethod yX11_scale ∈ zall := zall_mem (List.mem_append_right _ (List.mem_of_getElem? (i := 563) (by decide +kernel))) rfl
theorem lk_564 : Cond.selects RX11 yX11_scale yX11_scale ∈ zall := zall_mem (List.mem_append_right _ (List.mem_of_getElem? (i := 564) (by decide +kernel))) rfl
theorem lk_565 : Cond.code yX11_scale cX11_scale 6 (some .int) ∈ zall := zall_mem (List.mem_append_right _ (List.mem_of_getElem? (i := 565) (by decide +kernel))) rfl
theorem lk_1373 : Cond.instanceMethod yX12_scale ∈ zall := zall_mem (List.mem_append_right _ (List.mem_of_getElem? (i := 1373) (by decide +kernel))) rfl
theorem lk_1374 : Cond.selects RX12 yX12_scale yX12_scale ∈ zall := zall_mem (List.mem_append_right _ (List.mem_of_getElem? (i := 1374) (by decide +kernel))) rfl
theorem lk_1375 : Cond.code yX12_scale cX12_scale 9 (some .int) ∈ zall := zall_mem (List.mem_append_right _ (List.mem_of_getElem? (i := 1375) (by decide +kernel))) rfl
theorem lk_575 : Cond.instanceMethod yX11_tin ∈ zall := zall_mem (List.mem_append_right _ (List.mem_of_getElem? (i := 575) (by decide +kernel))) rfl
theorem lk_576 : Cond.selects RX11 yX11_tin yX11_tin ∈ zall := zall_mem (List.mem_append_right _ (List.mem_of_getElem? (i := 576) (by decide +kernel))) rfl
theorem lk_577 : Cond.code yX11_tin cX11_tin 4 (some .int) ∈ zall := zall_mem (List.mem_append_right _ (List.mem_of_getElem? (i := 577) (by decide +kernel))) rfl
theorem lk_1382 : Cond.instanceMethod yX12_tin ∈ zall := zall_mem (List.mem_append_right _ (List.mem_of_getElem? (i := 1382) (by decide +kernel))) rfl
theorem lk_1383 : Cond.selects RX12 yX12_tin yX12_tin ∈ zall := zall_mem (List.mem_append_right _ (List.mem_of_getElem? (i := 1383) (by decide +kernel))) rfl
theorem lk_1384 : Cond.code yX12_tin cX12_tin 3 (some .int) ∈ zall := zall_mem (List.mem_append_right _ (List.mem_of_getElem? (i := 1384) (by decide +kernel))) rfl
theorem lk_590 : Cond.instanceMethod yX11_deep ∈ zall := zall_mem (List.mem_append_right _ (List.mem_of_getElem? (i := 590) (by decide +kernel))) rfl
theorem lk_591 : Cond.selects RX11 yX11_deep yX11_deep ∈ zall := zall_mem (List.mem_append_right _ (List.mem_of_getElem? (i := 591) (by decide +kernel))) rfl
theorem lk_592 : Cond.code yX11_deep cX11_deep 5 (Option.some FieldType.long) ∈ zall := zall_mem (List.mem_append_right _ (List.mem_of_getElem? (i := 592) (by decide +kernel))) rfl
theorem lk_1399 : Cond.instanceMethod yX12_deep ∈ zall := zall_mem (List.mem_append_right _ (List.mem_of_getElem? (i := 1399) (by decide +kernel))) rfl
theorem lk_1400 : Cond.selects RX12 yX12_deep yX12_deep ∈ zall := zall_mem (List.mem_append_right _ (List.mem_of_getElem? (i := 1400) (by decide +kernel))) rfl
theorem lk_1401 : Cond.code yX12_deep cX12_deep 3 (Option.some FieldType.long) ∈ zall := zall_mem (List.mem_append_right _ (List.mem_of_getElem? (i := 1401) (by decide +kernel))) rfl
theorem lk_594 : Cond.instanceMethod yX11_tinFor ∈ zall := zall_mem (List.mem_append_right _ (List.mem_of_getElem? (i := 594) (by decide +kernel))) rfl
theorem lk_595 : Cond.selects RX11 yX11_tinFor yX11_tinFor ∈ zall := zall_mem (List.mem_append_right _ (List.mem_of_getElem? (i := 595) (by decide +kernel))) rfl
theorem lk_596 : Cond.code yX11_tinFor cX11_tinFor 1 (some .int) ∈ zall := zall_mem (List.mem_append_right _ (List.mem_of_getElem? (i := 596) (by decide +kernel))) rfl
theorem lk_1403 : Cond.instanceMethod yX12_tinFor ∈ zall := zall_mem (List.mem_append_right _ (List.mem_of_getElem? (i := 1403) (by decide +kernel))) rfl
theorem lk_1404 : Cond.selects RX12 yX12_tinFor yX12_tinFor ∈ zall := zall_mem (List.mem_append_right _ (List.mem_of_getElem? (i := 1404) (by decide +kernel))) rfl
theorem lk_1405 : Cond.code yX12_tinFor cX12_tinFor 12 (some .int) ∈ zall := zall_mem (List.mem_append_right _ (List.mem_of_getElem? (i := 1405) (by decide +kernel))) rfl
theorem lk_609 : Cond.instanceMethod yX11_enough ∈ zall := zall_mem (List.mem_append_right _ (List.mem_of_getElem? (i := 609) (by decide +kernel))) rfl
theorem lk_610 : Cond.selects RX11 yX11_enough yX11_enough ∈ zall := zall_mem (List.mem_append_right _ (List.mem_of_getElem? (i := 610) (by decide +kernel))) rfl
theorem lk_611 : Cond.code yX11_enough cX11_enough 1 (some .int) ∈ zall := zall_mem (List.mem_append_right _ (List.mem_of_getElem? (i := 611) (by decide +kernel))) rfl
theorem lk_1407 : Cond.instanceMethod yX12_enough ∈ zall := zall_mem (List.mem_append_right _ (List.mem_of_getElem? (i := 1407) (by decide +kernel))) rfl
theorem lk_1408 : Cond.selects RX12 yX12_enough yX12_enough ∈ zall := zall_mem (List.mem_append_right _ (List.mem_of_getElem? (i := 1408) (by decide +kernel))) rfl
theorem lk_1409 : Cond.code yX12_enough cX12_enough 2 (some .int) ∈ zall := zall_mem (List.mem_append_right _ (List.mem_of_getElem? (i := 1409) (by decide +kernel))) rfl
theorem lk_624 : Cond.instanceMethod yX11_lacks ∈ zall := zall_mem (List.mem_append_right _ (List.mem_of_getElem? (i := 624) (by decide +kernel))) rfl
theorem lk_625 : Cond.selects RX11 yX11_lacks yX11_lacks ∈ zall := zall_mem (List.mem_append_right _ (List.mem_of_getElem? (i := 625) (by decide +kernel))) rfl
theorem lk_626 : Cond.code yX11_lacks cX11_lacks 1 (some .int) ∈ zall := zall_mem (List.mem_append_right _ (List.mem_of_getElem? (i := 626) (by decide +kernel))) rfl
theorem lk_1415 : Cond.instanceMethod yX12_lacks ∈ zall := zall_mem (List.mem_append_right _ (List.mem_of_getElem? (i := 1415) (by decide +kernel))) rfl
theorem lk_1416 : Cond.selects RX12 yX12_lacks yX12_lacks ∈ zall := zall_mem (List.mem_append_right _ (List.mem_of_getElem? (i := 1416) (by decide +kernel))) rfl
theorem lk_1417 : Cond.code yX12_lacks cX12_lacks 3 (some .int) ∈ zall := zall_mem (List.mem_append_right _ (List.mem_of_getElem? (i := 1417) (by decide +kernel))) rfl
theorem lk_638 : Cond.instanceMethod yX11_standIn ∈ zall := zall_mem (List.mem_append_right _ (List.mem_of_getElem? (i := 638) (by decide +kernel))) rfl
theorem lk_639 : Cond.selects RX11 yX11_standIn yX11_standIn ∈ zall := zall_mem (List.mem_append_right _ (List.mem_of_getElem? (i := 639) (by decide +kernel))) rfl
theorem lk_640 : Cond.code yX11_standIn cX11_standIn 4 (some .int) ∈ zall := zall_mem (List.mem_append_right _ (List.mem_of_getElem? (i := 640) (by decide +kernel))) rfl
theorem lk_1423 : Cond.instanceMethod yX12_standIn ∈ zall := zall_mem (List.mem_append_right _ (List.mem_of_getElem? (i := 1423) (by decide +kernel))) rfl
theorem lk_1424 : Cond.selects RX12 yX12_standIn yX12_standIn ∈ zall := zall_mem (List.mem_append_right _ (List.mem_of_getElem? (i := 1424) (by decide +kernel))) rfl
theorem lk_1425 : Cond.code yX12_standIn cX12_standIn 3 (some .int) ∈ zall := zall_mem (List.mem_append_right _ (List.mem_of_getElem? (i := 1425) (by decide +kernel))) rfl
theorem lk_642 : Cond.instanceMethod yX11_stead ∈ zall := zall_mem (List.mem_append_right _ (List.mem_of_getElem? (i := 642) (by decide +kernel))) rfl
theorem lk_643 : Cond.selects RX11 yX11_stead yX11_stead ∈ zall := zall_mem (List.mem_append_right _ (List.mem_of_getElem? (i := 643) (by decide +kernel))) rfl
theorem lk_644 : Cond.code yX11_stead cX11_stead 3 (some .int) ∈ zall := zall_mem (List.mem_append_right _ (List.mem_of_getElem? (i := 644) (by decide +kernel))) rfl
theorem lk_1428 : Cond.instanceMethod yX12_stead ∈ zall := zall_mem (List.mem_append_right _ (List.mem_of_getElem? (i := 1428) (by decide +kernel))) rfl
theorem lk_1429 : Cond.selects RX12 yX12_stead yX12_stead ∈ zall := zall_mem (List.mem_append_right _ (List.mem_of_getElem? (i := 1429) (by decide +kernel))) rfl
theorem lk_1430 : Cond.code yX12_stead cX12_stead 6 (some .int) ∈ zall := zall_mem (List.mem_append_right _ (List.mem_of_getElem? (i := 1430) (by decide +kernel))) rfl
theorem lk_668 : Cond.instanceMethod yX11_cup ∈ zall := zall_mem (List.mem_append_right _ (List.mem_of_getElem? (i := 668) (by decide +kernel))) rfl
theorem lk_669 : Cond.selects RX11 yX11_cup yX11_cup ∈ zall := zall_mem (List.mem_append_right _ (List.mem_of_getElem? (i := 669) (by decide +kernel))) rfl
theorem lk_670 : Cond.code yX11_cup cX11_cup 4 (some .int) ∈ zall := zall_mem (List.mem_append_right _ (List.mem_of_getElem? (i := 670) (by decide +kernel))) rfl
theorem lk_1441 : Cond.instanceMethod yX12_cup ∈ zall := zall_mem (List.mem_append_right _ (List.mem_of_getElem? (i := 1441) (by decide +kernel))) rfl
theorem lk_1442 : Cond.selects RX12 yX12_cup yX12_cup ∈ zall := zall_mem (List.mem_append_right _ (List.mem_of_getElem? (i := 1442) (by decide +kernel))) rfl
theorem lk_1443 : Cond.code yX12_cup cX12_cup 5 (some .int) ∈ zall := zall_mem (List.mem_append_right _ (List.mem_of_getElem? (i := 1443) (by decide +kernel))) rfl
theorem lk_672 : Cond.instanceMethod yX11_pours ∈ zall := zall_mem (List.mem_append_right _ (List.mem_of_getElem? (i := 672) (by decide +kernel))) rfl
theorem lk_673 : Cond.selects RX11 yX11_pours yX11_pours ∈ zall := zall_mem (List.mem_append_right _ (List.mem_of_getElem? (i := 673) (by decide +kernel))) rfl
theorem lk_674 : Cond.code yX11_pours cX11_pours 3 (some .int) ∈ zall := zall_mem (List.mem_append_right _ (List.mem_of_getElem? (i := 674) (by decide +kernel))) rfl
theorem lk_1445 : Cond.instanceMethod yX12_pours ∈ zall := zall_mem (List.mem_append_right _ (List.mem_of_getElem? (i := 1445) (by decide +kernel))) rfl
theorem lk_1446 : Cond.selects RX12 yX12_pours yX12_pours ∈ zall := zall_mem (List.mem_append_right _ (List.mem_of_getElem? (i := 1446) (by decide +kernel))) rfl
theorem lk_1447 : Cond.code yX12_pours cX12_pours 4 (some .int) ∈ zall := zall_mem (List.mem_append_right _ (List.mem_of_getElem? (i := 1447) (by decide +kernel))) rfl
theorem lk_713 : Cond.instanceMethod yX11_steps ∈ zall := zall_mem (List.mem_append_right _ (List.mem_of_getElem? (i := 713) (by decide +kernel))) rfl
theorem lk_714 : Cond.selects RX11 yX11_steps yX11_steps ∈ zall := zall_mem (List.mem_append_right _ (List.mem_of_getElem? (i := 714) (by decide +kernel))) rfl
theorem lk_715 : Cond.code yX11_steps cX11_steps 5 (some .int) ∈ zall := zall_mem (List.mem_append_right _ (List.mem_of_getElem? (i := 715) (by decide +kernel))) rfl
theorem lk_1467 : Cond.instanceMethod yX12_steps ∈ zall := zall_mem (List.mem_append_right _ (List.mem_of_getElem? (i := 1467) (by decide +kernel))) rfl
theorem lk_1468 : Cond.selects RX12 yX12_steps yX12_steps ∈ zall := zall_mem (List.mem_append_right _ (List.mem_of_getElem? (i := 1468) (by decide +kernel))) rfl
theorem lk_1469 : Cond.code yX12_steps cX12_steps 4 (some .int) ∈ zall := zall_mem (List.mem_append_right _ (List.mem_of_getElem? (i := 1469) (by decide +kernel))) rfl
theorem lk_724 : Cond.instanceMethod yX11_mistake ∈ zall := zall_mem (List.mem_append_right _ (List.mem_of_getElem? (i := 724) (by decide +kernel))) rfl
theorem lk_725 : Cond.selects RX11 yX11_mistake yX11_mistake ∈ zall := zall_mem (List.mem_append_right _ (List.mem_of_getElem? (i := 725) (by decide +kernel))) rfl
theorem lk_726 : Cond.code yX11_mistake cX11_mistake 4 (some .int) ∈ zall := zall_mem (List.mem_append_right _ (List.mem_of_getElem? (i := 726) (by decide +kernel))) rfl
theorem lk_1471 : Cond.instanceMethod yX12_mistake ∈ zall := zall_mem (List.mem_append_right _ (List.mem_of_getElem? (i := 1471) (by decide +kernel))) rfl
theorem lk_1472 : Cond.selects RX12 yX12_mistake yX12_mistake ∈ zall := zall_mem (List.mem_append_right _ (List.mem_of_getElem? (i := 1472) (by decide +kernel))) rfl
theorem lk_1473 : Cond.code yX12_mistake cX12_mistake 3 (some .int) ∈ zall := zall_mem (List.mem_append_right _ (List.mem_of_getElem? (i := 1473) (by decide +kernel))) rfl
theorem lk_734 : Cond.instanceMethod yX11_more ∈ zall := zall_mem (List.mem_append_right _ (List.mem_of_getElem? (i := 734) (by decide +kernel))) rfl
theorem lk_735 : Cond.selects RX11 yX11_more yX11_more ∈ zall := zall_mem (List.mem_append_right _ (List.mem_of_getElem? (i := 735) (by decide +kernel))) rfl
theorem lk_736 : Cond.code yX11_more cX11_more 5 (some .int) ∈ zall := zall_mem (List.mem_append_right _ (List.mem_of_getElem? (i := 736) (by decide +kernel))) rfl
theorem lk_1483 : Cond.instanceMethod yX12_more ∈ zall := zall_mem (List.mem_append_right _ (List.mem_of_getElem? (i := 1483) (by decide +kernel))) rfl
theorem lk_1484 : Cond.selects RX12 yX12_more yX12_more ∈ zall := zall_mem (List.mem_append_right _ (List.mem_of_getElem? (i := 1484) (by decide +kernel))) rfl
theorem lk_1485 : Cond.code yX12_more cX12_more 7 (some .int) ∈ zall := zall_mem (List.mem_append_right _ (List.mem_of_getElem? (i := 1485) (by decide +kernel))) rfl
theorem lk_747 : Cond.instanceMethod yX11_lots ∈ zall := zall_mem (List.mem_append_right _ (List.mem_of_getElem? (i := 747) (by decide +kernel))) rfl
theorem lk_748 : Cond.selects RX11 yX11_lots yX11_lots ∈ zall := zall_mem (List.mem_append_right _ (List.mem_of_getElem? (i := 748) (by decide +kernel))) rfl
theorem lk_749 : Cond.code yX11_lots cX11_lots 4 (some .int) ∈ zall := zall_mem (List.mem_append_right _ (List.mem_of_getElem? (i := 749) (by decide +kernel))) rfl
theorem lk_1487 : Cond.instanceMethod yX12_lots ∈ zall := zall_mem (List.mem_append_right _ (List.mem_of_getElem? (i := 1487) (by decide +kernel))) rfl
theorem lk_1488 : Cond.selects RX12 yX12_lots yX12_lots ∈ zall := zall_mem (List.mem_append_right _ (List.mem_of_getElem? (i := 1488) (by decide +kernel))) rfl
theorem lk_1489 : Cond.code yX12_lots cX12_lots 11 (some .int) ∈ zall := zall_mem (List.mem_append_right _ (List.mem_of_getElem? (i := 1489) (by decide +kernel))) rfl
theorem lk_755 : Cond.instanceMethod yX11_used ∈ zall := zall_mem (List.mem_append_right _ (List.mem_of_getElem? (i := 755) (by decide +kernel))) rfl
theorem lk_756 : Cond.selects RX11 yX11_used yX11_used ∈ zall := zall_mem (List.mem_append_right _ (List.mem_of_getElem? (i := 756) (by decide +kernel))) rfl
theorem lk_757 : Cond.code yX11_used cX11_used 1 (some .int) ∈ zall := zall_mem (List.mem_append_right _ (List.mem_of_getElem? (i := 757) (by decide +kernel))) rfl
theorem lk_1491 : Cond.instanceMethod yX12_used ∈ zall := zall_mem (List.mem_append_right _ (List.mem_of_getElem? (i := 1491) (by decide +kernel))) rfl
theorem lk_1492 : Cond.selects RX12 yX12_used yX12_used ∈ zall := zall_mem (List.mem_append_right _ (List.mem_of_getElem? (i := 1492) (by decide +kernel))) rfl
theorem lk_1493 : Cond.code yX12_used cX12_used 4 (some .int) ∈ zall := zall_mem (List.mem_append_right _ (List.mem_of_getElem? (i := 1493) (by decide +kernel))) rfl
theorem lk_766 : Cond.instanceMethod yX11_row ∈ zall := zall_mem (List.mem_append_right _ (List.mem_of_getElem? (i := 766) (by decide +kernel))) rfl
theorem lk_767 : Cond.selects RX11 yX11_row yX11_row ∈ zall := zall_mem (List.mem_append_right _ (List.mem_of_getElem? (i := 767) (by decide +kernel))) rfl
theorem lk_768 : Cond.code yX11_row cX11_row 3 (some .int) ∈ zall := zall_mem (List.mem_append_right _ (List.mem_of_getElem? (i := 768) (by decide +kernel))) rfl
theorem lk_1627 : Cond.instanceMethod yX12_row ∈ zall := zall_mem (List.mem_append_right _ (List.mem_of_getElem? (i := 1627) (by decide +kernel))) rfl
theorem lk_1628 : Cond.selects RX12 yX12_row yX12_row ∈ zall := zall_mem (List.mem_append_right _ (List.mem_of_getElem? (i := 1628) (by decide +kernel))) rfl
theorem lk_1629 : Cond.code yX12_row cX12_row 2 (some .int) ∈ zall := zall_mem (List.mem_append_right _ (List.mem_of_getElem? (i := 1629) (by decide +kernel))) rfl
theorem lk_770 : Cond.instanceMethod yX11_read ∈ zall := zall_mem (List.mem_append_right _ (List.mem_of_getElem? (i := 770) (by decide +kernel))) rfl
theorem lk_771 : Cond.selects RX11 yX11_read yX11_read ∈ zall := zall_mem (List.mem_append_right _ (List.mem_of_getElem? (i := 771) (by decide +kernel))) rfl
theorem lk_772 : Cond.code yX11_read cX11_read 3 (some .int) ∈ zall := zall_mem (List.mem_append_right _ (List.mem_of_getElem? (i := 772) (by decide +kernel))) rfl
theorem lk_1631 : Cond.instanceMethod yX12_read ∈ zall := zall_mem (List.mem_append_right _ (List.mem_of_getElem? (i := 1631) (by decide +kernel))) rfl
theorem lk_1632 : Cond.selects RX12 yX12_read yX12_read ∈ zall := zall_mem (List.mem_append_right _ (List.mem_of_getElem? (i := 1632) (by decide +kernel))) rfl
theorem lk_1633 : Cond.code yX12_read cX12_read 5 (some .int) ∈ zall := zall_mem (List.mem_append_right _ (List.mem_of_getElem? (i := 1633) (by decide +kernel))) rfl
theorem lk_802 : Cond.instanceMethod yX11_judge ∈ zall := zall_mem (List.mem_append_right _ (List.mem_of_getElem? (i := 802) (by decide +kernel))) rfl
theorem lk_803 : Cond.selects RX11 yX11_judge yX11_judge ∈ zall := zall_mem (List.mem_append_right _ (List.mem_of_getElem? (i := 803) (by decide +kernel))) rfl
theorem lk_804 : Cond.code yX11_judge cX11_judge 3 (some .int) ∈ zall := zall_mem (List.mem_append_right _ (List.mem_of_getElem? (i := 804) (by decide +kernel))) rfl
theorem lk_1643 : Cond.instanceMethod yX12_judge ∈ zall := zall_mem (List.mem_append_right _ (List.mem_of_getElem? (i := 1643) (by decide +kernel))) rfl
theorem lk_1644 : Cond.selects RX12 yX12_judge yX12_judge ∈ zall := zall_mem (List.mem_append_right _ (List.mem_of_getElem? (i := 1644) (by decide +kernel))) rfl
theorem lk_1645 : Cond.code yX12_judge cX12_judge 2 (some .int) ∈ zall := zall_mem (List.mem_append_right _ (List.mem_of_getElem? (i := 1645) (by decide +kernel))) rfl
theorem lk_809 : Cond.instanceMethod yX11_clear ∈ zall := zall_mem (List.mem_append_right _ (List.mem_of_getElem? (i := 809) (by decide +kernel))) rfl
theorem lk_810 : Cond.selects RX11 yX11_clear yX11_clear ∈ zall := zall_mem (List.mem_append_right _ (List.mem_of_getElem? (i := 810) (by decide +kernel))) rfl
theorem lk_811 : Cond.code yX11_clear cX11_clear 2 (some .int) ∈ zall := zall_mem (List.mem_append_right _ (List.mem_of_getElem? (i := 811) (by decide +kernel))) rfl
theorem lk_1647 : Cond.instanceMethod yX12_clear ∈ zall := zall_mem (List.mem_append_right _ (List.mem_of_getElem? (i := 1647) (by decide +kernel))) rfl
theorem lk_1648 : Cond.selects RX12 yX12_clear yX12_clear ∈ zall := zall_mem (List.mem_append_right _ (List.mem_of_getElem? (i := 1648) (by decide +kernel))) rfl
theorem lk_1649 : Cond.code yX12_clear cX12_clear 2 (some .int) ∈ zall := zall_mem (List.mem_append_right _ (List.mem_of_getElem? (i := 1649) (by decide +kernel))) rfl
theorem lk_813 : Cond.instanceMethod yX11_seeds ∈ zall := zall_mem (List.mem_append_right _ (List.mem_of_getElem? (i := 813) (by decide +kernel))) rfl
theorem lk_814 : Cond.selects RX11 yX11_seeds yX11_seeds ∈ zall := zall_mem (List.mem_append_right _ (List.mem_of_getElem? (i := 814) (by decide +kernel))) rfl
theorem lk_815 : Cond.code yX11_seeds cX11_seeds 5 (Option.some FieldType.long) ∈ zall := zall_mem (List.mem_append_right _ (List.mem_of_getElem? (i := 815) (by decide +kernel))) rfl
theorem lk_1651 : Cond.instanceMethod yX12_seeds ∈ zall := zall_mem (List.mem_append_right _ (List.mem_of_getElem? (i := 1651) (by decide +kernel))) rfl
theorem lk_1652 : Cond.selects RX12 yX12_seeds yX12_seeds ∈ zall := zall_mem (List.mem_append_right _ (List.mem_of_getElem? (i := 1652) (by decide +kernel))) rfl
theorem lk_1653 : Cond.code yX12_seeds cX12_seeds 10 (Option.some FieldType.long) ∈ zall := zall_mem (List.mem_append_right _ (List.mem_of_getElem? (i := 1653) (by decide +kernel))) rfl
theorem lk_832 : Cond.instanceMethod yX11_back ∈ zall := zall_mem (List.mem_append_right _ (List.mem_of_getElem? (i := 832) (by decide +kernel))) rfl
theorem lk_833 : Cond.selects RX11 yX11_back yX11_back ∈ zall := zall_mem (List.mem_append_right _ (List.mem_of_getElem? (i := 833) (by decide +kernel))) rfl
theorem lk_834 : Cond.code yX11_back cX11_back 3 (some .int) ∈ zall := zall_mem (List.mem_append_right _ (List.mem_of_getElem? (i := 834) (by decide +kernel))) rfl
theorem lk_1326 : Cond.instanceMethod yX12_back ∈ zall := zall_mem (List.mem_append_right _ (List.mem_of_getElem? (i := 1326) (by decide +kernel))) rfl
theorem lk_1327 : Cond.selects RX12 yX12_back yX12_back ∈ zall := zall_mem (List.mem_append_right _ (List.mem_of_getElem? (i := 1327) (by decide +kernel))) rfl
theorem lk_1328 : Cond.code yX12_back cX12_back 1 (some .int) ∈ zall := zall_mem (List.mem_append_right _ (List.mem_of_getElem? (i := 1328) (by decide +kernel))) rfl
theorem lk_837 : Cond.instanceMethod yX11_price ∈ zall := zall_mem (List.mem_append_right _ (List.mem_of_getElem? (i := 837) (by decide +kernel))) rfl
theorem lk_838 : Cond.selects RX11 yX11_price yX11_price ∈ zall := zall_mem (List.mem_append_right _ (List.mem_of_getElem? (i := 838) (by decide +kernel))) rfl
theorem lk_839 : Cond.code yX11_price cX11_price 3 (some .int) ∈ zall := zall_mem (List.mem_append_right _ (List.mem_of_getElem? (i := 839) (by decide +kernel))) rfl
theorem lk_1495 : Cond.instanceMethod yX12_price ∈ zall := zall_mem (List.mem_append_right _ (List.mem_of_getElem? (i := 1495) (by decide +kernel))) rfl
theorem lk_1496 : Cond.selects RX12 yX12_price yX12_price ∈ zall := zall_mem (List.mem_append_right _ (List.mem_of_getElem? (i := 1496) (by decide +kernel))) rfl
theorem lk_1497 : Cond.code yX12_price cX12_price 5 (some .int) ∈ zall := zall_mem (List.mem_append_right _ (List.mem_of_getElem? (i := 1497) (by decide +kernel))) rfl
theorem lk_841 : Cond.instanceMethod yX11_buy ∈ zall := zall_mem (List.mem_append_right _ (List.mem_of_getElem? (i := 841) (by decide +kernel))) rfl
theorem lk_842 : Cond.selects RX11 yX11_buy yX11_buy ∈ zall := zall_mem (List.mem_append_right _ (List.mem_of_getElem? (i := 842) (by decide +kernel))) rfl
theorem lk_843 : Cond.code yX11_buy cX11_buy 3 (some .int) ∈ zall := zall_mem (List.mem_append_right _ (List.mem_of_getElem? (i := 843) (by decide +kernel))) rfl
theorem lk_1503 : Cond.instanceMethod yX12_buy ∈ zall := zall_mem (List.mem_append_right _ (List.mem_of_getElem? (i := 1503) (by decide +kernel))) rfl
theorem lk_1504 : Cond.selects RX12 yX12_buy yX12_buy ∈ zall := zall_mem (List.mem_append_right _ (List.mem_of_getElem? (i := 1504) (by decide +kernel))) rfl
theorem lk_1505 : Cond.code yX12_buy cX12_buy 2 (some .int) ∈ zall := zall_mem (List.mem_append_right _ (List.mem_of_getElem? (i := 1505) (by decide +kernel))) rfl
theorem lk_848 : Cond.instanceMethod yX11_cheapest ∈ zall := zall_mem (List.mem_append_right _ (List.mem_of_getElem? (i := 848) (by decide +kernel))) rfl
theorem lk_849 : Cond.selects RX11 yX11_cheapest yX11_cheapest ∈ zall := zall_mem (List.mem_append_right _ (List.mem_of_getElem? (i := 849) (by decide +kernel))) rfl
theorem lk_850 : Cond.code yX11_cheapest cX11_cheapest 4 (some .int) ∈ zall := zall_mem (List.mem_append_right _ (List.mem_of_getElem? (i := 850) (by decide +kernel))) rfl
theorem lk_1511 : Cond.instanceMethod yX12_cheapest ∈ zall := zall_mem (List.mem_append_right _ (List.mem_of_getElem? (i := 1511) (by decide +kernel))) rfl
theorem lk_1512 : Cond.selects RX12 yX12_cheapest yX12_cheapest ∈ zall := zall_mem (List.mem_append_right _ (List.mem_of_getElem? (i := 1512) (by decide +kernel))) rfl
theorem lk_1513 : Cond.code yX12_cheapest cX12_cheapest 6 (some .int) ∈ zall := zall_mem (List.mem_append_right _ (List.mem_of_getElem? (i := 1513) (by decide +kernel))) rfl
theorem lk_856 : Cond.instanceMethod yX11_weight ∈ zall := zall_mem (List.mem_append_right _ (List.mem_of_getElem? (i := 856) (by decide +kernel))) rfl
theorem lk_857 : Cond.selects RX11 yX11_weight yX11_weight ∈ zall := zall_mem (List.mem_append_right _ (List.mem_of_getElem? (i := 857) (by decide +kernel))) rfl
theorem lk_858 : Cond.code yX11_weight cX11_weight 3 (some .int) ∈ zall := zall_mem (List.mem_append_right _ (List.mem_of_getElem? (i := 858) (by decide +kernel))) rfl
theorem lk_1515 : Cond.instanceMethod yX12_weight ∈ zall := zall_mem (List.mem_append_right _ (List.mem_of_getElem? (i := 1515) (by decide +kernel))) rfl
theorem lk_1516 : Cond.selects RX12 yX12_weight yX12_weight ∈ zall := zall_mem (List.mem_append_right _ (List.mem_of_getElem? (i := 1516) (by decide +kernel))) rfl
theorem lk_1517 : Cond.code yX12_weight cX12_weight 3 (some .int) ∈ zall := zall_mem (List.mem_append_right _ (List.mem_of_getElem? (i := 1517) (by decide +kernel))) rfl
theorem lk_860 : Cond.instanceMethod yX11_weighed ∈ zall := zall_mem (List.mem_append_right _ (List.mem_of_getElem? (i := 860) (by decide +kernel))) rfl
theorem lk_861 : Cond.selects RX11 yX11_weighed yX11_weighed ∈ zall := zall_mem (List.mem_append_right _ (List.mem_of_getElem? (i := 861) (by decide +kernel))) rfl
theorem lk_862 : Cond.code yX11_weighed cX11_weighed 4 (some .int) ∈ zall := zall_mem (List.mem_append_right _ (List.mem_of_getElem? (i := 862) (by decide +kernel))) rfl
theorem lk_1519 : Cond.instanceMethod yX12_weighed ∈ zall := zall_mem (List.mem_append_right _ (List.mem_of_getElem? (i := 1519) (by decide +kernel))) rfl
theorem lk_1520 : Cond.selects RX12 yX12_weighed yX12_weighed ∈ zall := zall_mem (List.mem_append_right _ (List.mem_of_getElem? (i := 1520) (by decide +kernel))) rfl
theorem lk_1521 : Cond.code yX12_weighed cX12_weighed 5 (some .int) ∈ zall := zall_mem (List.mem_append_right _ (List.mem_of_getElem? (i := 1521) (by decide +kernel))) rfl
theorem lk_889 : Cond.instanceMethod yX11_heavy ∈ zall := zall_mem (List.mem_append_right _ (List.mem_of_getElem? (i := 889) (by decide +kernel))) rfl
theorem lk_890 : Cond.selects RX11 yX11_heavy yX11_heavy ∈ zall := zall_mem (List.mem_append_right _ (List.mem_of_getElem? (i := 890) (by decide +kernel))) rfl
theorem lk_891 : Cond.code yX11_heavy cX11_heavy 1 (some .int) ∈ zall := zall_mem (List.mem_append_right _ (List.mem_of_getElem? (i := 891) (by decide +kernel))) rfl
theorem lk_1534 : Cond.instanceMethod yX12_heavy ∈ zall := zall_mem (List.mem_append_right _ (List.mem_of_getElem? (i := 1534) (by decide +kernel))) rfl
theorem lk_1535 : Cond.selects RX12 yX12_heavy yX12_heavy ∈ zall := zall_mem (List.mem_append_right _ (List.mem_of_getElem? (i := 1535) (by decide +kernel))) rfl
theorem lk_1536 : Cond.code yX12_heavy cX12_heavy 4 (some .int) ∈ zall := zall_mem (List.mem_append_right _ (List.mem_of_getElem? (i := 1536) (by decide +kernel))) rfl
theorem lk_897 : Cond.instanceMethod yX11_oven ∈ zall := zall_mem (List.mem_append_right _ (List.mem_of_getElem? (i := 897) (by decide +kernel))) rfl
theorem lk_898 : Cond.selects RX11 yX11_oven yX11_oven ∈ zall := zall_mem (List.mem_append_right _ (List.mem_of_getElem? (i := 898) (by decide +kernel))) rfl
theorem lk_899 : Cond.code yX11_oven cX11_oven 4 (some .int) ∈ zall := zall_mem (List.mem_append_right _ (List.mem_of_getElem? (i := 899) (by decide +kernel))) rfl
theorem lk_1539 : Cond.instanceMethod yX12_oven ∈ zall := zall_mem (List.mem_append_right _ (List.mem_of_getElem? (i := 1539) (by decide +kernel))) rfl
theorem lk_1540 : Cond.selects RX12 yX12_oven yX12_oven ∈ zall := zall_mem (List.mem_append_right _ (List.mem_of_getElem? (i := 1540) (by decide +kernel))) rfl
theorem lk_1541 : Cond.code yX12_oven cX12_oven 5 (some .int) ∈ zall := zall_mem (List.mem_append_right _ (List.mem_of_getElem? (i := 1541) (by decide +kernel))) rfl
theorem lk_934 : Cond.instanceMethod yX11_also ∈ zall := zall_mem (List.mem_append_right _ (List.mem_of_getElem? (i := 934) (by decide +kernel))) rfl
theorem lk_935 : Cond.selects RX11 yX11_also yX11_also ∈ zall := zall_mem (List.mem_append_right _ (List.mem_of_getElem? (i := 935) (by decide +kernel))) rfl
theorem lk_936 : Cond.code yX11_also cX11_also 3 (some .int) ∈ zall := zall_mem (List.mem_append_right _ (List.mem_of_getElem? (i := 936) (by decide +kernel))) rfl
theorem lk_1499 : Cond.instanceMethod yX12_also ∈ zall := zall_mem (List.mem_append_right _ (List.mem_of_getElem? (i := 1499) (by decide +kernel))) rfl
theorem lk_1500 : Cond.selects RX12 yX12_also yX12_also ∈ zall := zall_mem (List.mem_append_right _ (List.mem_of_getElem? (i := 1500) (by decide +kernel))) rfl
theorem lk_1501 : Cond.code yX12_also cX12_also 5 (some .int) ∈ zall := zall_mem (List.mem_append_right _ (List.mem_of_getElem? (i := 1501) (by decide +kernel))) rfl
theorem lk_938 : Cond.instanceMethod yX11_recipes ∈ zall := zall_mem (List.mem_append_right _ (List.mem_of_getElem? (i := 938) (by decide +kernel))) rfl
theorem lk_939 : Cond.selects RX11 yX11_recipes yX11_recipes ∈ zall := zall_mem (List.mem_append_right _ (List.mem_of_getElem? (i := 939) (by decide +kernel))) rfl
theorem lk_940 : Cond.code yX11_recipes cX11_recipes 4 (some .int) ∈ zall := zall_mem (List.mem_append_right _ (List.mem_of_getElem? (i := 940) (by decide +kernel))) rfl
theorem lk_1563 : Cond.instanceMethod yX12_recipes ∈ zall := zall_mem (List.mem_append_right _ (List.mem_of_getElem? (i := 1563) (by decide +kernel))) rfl
theorem lk_1564 : Cond.selects RX12 yX12_recipes yX12_recipes ∈ zall := zall_mem (List.mem_append_right _ (List.mem_of_getElem? (i := 1564) (by decide +kernel))) rfl
theorem lk_1565 : Cond.code yX12_recipes cX12_recipes 7 (some .int) ∈ zall := zall_mem (List.mem_append_right _ (List.mem_of_getElem? (i := 1565) (by decide +kernel))) rfl
theorem lk_948 : Cond.instanceMethod yX11_needed ∈ zall := zall_mem (List.mem_append_right _ (List.mem_of_getElem? (i := 948) (by decide +kernel))) rfl
theorem lk_949 : Cond.selects RX11 yX11_needed yX11_needed ∈ zall := zall_mem (List.mem_append_right _ (List.mem_of_getElem? (i := 949) (by decide +kernel))) rfl
theorem lk_950 : Cond.code yX11_needed cX11_needed 6 (some .int) ∈ zall := zall_mem (List.mem_append_right _ (List.mem_of_getElem? (i := 950) (by decide +kernel))) rfl
theorem lk_1571 : Cond.instanceMethod yX12_needed ∈ zall := zall_mem (List.mem_append_right _ (List.mem_of_getElem? (i := 1571) (by decide +kernel))) rfl
theorem lk_1572 : Cond.selects RX12 yX12_needed yX12_needed ∈ zall := zall_mem (List.mem_append_right _ (List.mem_of_getElem? (i := 1572) (by decide +kernel))) rfl
theorem lk_1573 : Cond.code yX12_needed cX12_needed 5 (some .int) ∈ zall := zall_mem (List.mem_append_right _ (List.mem_of_getElem? (i := 1573) (by decide +kernel))) rfl
theorem lk_957 : Cond.instanceMethod yX11_forgotten ∈ zall := zall_mem (List.mem_append_right _ (List.mem_of_getElem? (i := 957) (by decide +kernel))) rfl
theorem lk_958 : Cond.selects RX11 yX11_forgotten yX11_forgotten ∈ zall := zall_mem (List.mem_append_right _ (List.mem_of_getElem? (i := 958) (by decide +kernel))) rfl
theorem lk_959 : Cond.code yX11_forgotten cX11_forgotten 1 (some .int) ∈ zall := zall_mem (List.mem_append_right _ (List.mem_of_getElem? (i := 959) (by decide +kernel))) rfl
theorem lk_1575 : Cond.instanceMethod yX12_forgotten ∈ zall := zall_mem (List.mem_append_right _ (List.mem_of_getElem? (i := 1575) (by decide +kernel))) rfl
theorem lk_1576 : Cond.selects RX12 yX12_forgotten yX12_forgotten ∈ zall := zall_mem (List.mem_append_right _ (List.mem_of_getElem? (i := 1576) (by decide +kernel))) rfl
theorem lk_1577 : Cond.code yX12_forgotten cX12_forgotten 4 (some .int) ∈ zall := zall_mem (List.mem_append_right _ (List.mem_of_getElem? (i := 1577) (by decide +kernel))) rfl
theorem lk_964 : Cond.instanceMethod yX11_pair ∈ zall := zall_mem (List.mem_append_right _ (List.mem_of_getElem? (i := 964) (by decide +kernel))) rfl
theorem lk_965 : Cond.selects RX11 yX11_pair yX11_pair ∈ zall := zall_mem (List.mem_append_right _ (List.mem_of_getElem? (i := 965) (by decide +kernel))) rfl
theorem lk_966 : Cond.code yX11_pair cX11_pair 1 (some .int) ∈ zall := zall_mem (List.mem_append_right _ (List.mem_of_getElem? (i := 966) (by decide +kernel))) rfl
theorem lk_1579 : Cond.instanceMethod yX12_pair ∈ zall := zall_mem (List.mem_append_right _ (List.mem_of_getElem? (i := 1579) (by decide +kernel))) rfl
theorem lk_1580 : Cond.selects RX12 yX12_pair yX12_pair ∈ zall := zall_mem (List.mem_append_right _ (List.mem_of_getElem? (i := 1580) (by decide +kernel))) rfl
theorem lk_1581 : Cond.code yX12_pair cX12_pair 7 (some .int) ∈ zall := zall_mem (List.mem_append_right _ (List.mem_of_getElem? (i := 1581) (by decide +kernel))) rfl
theorem lk_972 : Cond.instanceMethod yX11_path ∈ zall := zall_mem (List.mem_append_right _ (List.mem_of_getElem? (i := 972) (by decide +kernel))) rfl
theorem lk_973 : Cond.selects RX11 yX11_path yX11_path ∈ zall := zall_mem (List.mem_append_right _ (List.mem_of_getElem? (i := 973) (by decide +kernel))) rfl
theorem lk_974 : Cond.code yX11_path cX11_path 4 (some .int) ∈ zall := zall_mem (List.mem_append_right _ (List.mem_of_getElem? (i := 974) (by decide +kernel))) rfl
theorem lk_1583 : Cond.instanceMethod yX12_path ∈ zall := zall_mem (List.mem_append_right _ (List.mem_of_getElem? (i := 1583) (by decide +kernel))) rfl
theorem lk_1584 : Cond.selects RX12 yX12_path yX12_path ∈ zall := zall_mem (List.mem_append_right _ (List.mem_of_getElem? (i := 1584) (by decide +kernel))) rfl
theorem lk_1585 : Cond.code yX12_path cX12_path 5 (some .int) ∈ zall := zall_mem (List.mem_append_right _ (List.mem_of_getElem? (i := 1585) (by decide +kernel))) rfl
theorem lk_980 : Cond.instanceMethod yX11_dish ∈ zall := zall_mem (List.mem_append_right _ (List.mem_of_getElem? (i := 980) (by decide +kernel))) rfl
theorem lk_981 : Cond.selects RX11 yX11_dish yX11_dish ∈ zall := zall_mem (List.mem_append_right _ (List.mem_of_getElem? (i := 981) (by decide +kernel))) rfl
theorem lk_982 : Cond.code yX11_dish cX11_dish 8 (some .int) ∈ zall := zall_mem (List.mem_append_right _ (List.mem_of_getElem? (i := 982) (by decide +kernel))) rfl
theorem lk_1599 : Cond.instanceMethod yX12_dish ∈ zall := zall_mem (List.mem_append_right _ (List.mem_of_getElem? (i := 1599) (by decide +kernel))) rfl
theorem lk_1600 : Cond.selects RX12 yX12_dish yX12_dish ∈ zall := zall_mem (List.mem_append_right _ (List.mem_of_getElem? (i := 1600) (by decide +kernel))) rfl
theorem lk_1601 : Cond.code yX12_dish cX12_dish 7 (some .int) ∈ zall := zall_mem (List.mem_append_right _ (List.mem_of_getElem? (i := 1601) (by decide +kernel))) rfl
theorem lk_984 : Cond.instanceMethod yX11_usedUp ∈ zall := zall_mem (List.mem_append_right _ (List.mem_of_getElem? (i := 984) (by decide +kernel))) rfl
theorem lk_985 : Cond.selects RX11 yX11_usedUp yX11_usedUp ∈ zall := zall_mem (List.mem_append_right _ (List.mem_of_getElem? (i := 985) (by decide +kernel))) rfl
theorem lk_986 : Cond.code yX11_usedUp cX11_usedUp 4 (some .int) ∈ zall := zall_mem (List.mem_append_right _ (List.mem_of_getElem? (i := 986) (by decide +kernel))) rfl
theorem lk_1603 : Cond.instanceMethod yX12_usedUp ∈ zall := zall_mem (List.mem_append_right _ (List.mem_of_getElem? (i := 1603) (by decide +kernel))) rfl
theorem lk_1604 : Cond.selects RX12 yX12_usedUp yX12_usedUp ∈ zall := zall_mem (List.mem_append_right _ (List.mem_of_getElem? (i := 1604) (by decide +kernel))) rfl
theorem lk_1605 : Cond.code yX12_usedUp cX12_usedUp 4 (some .int) ∈ zall := zall_mem (List.mem_append_right _ (List.mem_of_getElem? (i := 1605) (by decide +kernel))) rfl
theorem lk_1001 : Cond.instanceMethod yX11_fair ∈ zall := zall_mem (List.mem_append_right _ (List.mem_of_getElem? (i := 1001) (by decide +kernel))) rfl
theorem lk_1002 : Cond.selects RX11 yX11_fair yX11_fair ∈ zall := zall_mem (List.mem_append_right _ (List.mem_of_getElem? (i := 1002) (by decide +kernel))) rfl
theorem lk_1003 : Cond.code yX11_fair cX11_fair 5 (some .int) ∈ zall := zall_mem (List.mem_append_right _ (List.mem_of_getElem? (i := 1003) (by decide +kernel))) rfl
theorem lk_1615 : Cond.instanceMethod yX12_fair ∈ zall := zall_mem (List.mem_append_right _ (List.mem_of_getElem? (i := 1615) (by decide +kernel))) rfl
theorem lk_1616 : Cond.selects RX12 yX12_fair yX12_fair ∈ zall := zall_mem (List.mem_append_right _ (List.mem_of_getElem? (i := 1616) (by decide +kernel))) rfl
theorem lk_1617 : Cond.code yX12_fair cX12_fair 5 (some .int) ∈ zall := zall_mem (List.mem_append_right _ (List.mem_of_getElem? (i := 1617) (by decide +kernel))) rfl
theorem lk_1017 : Cond.instanceMethod yX11_image ∈ zall := zall_mem (List.mem_append_right _ (List.mem_of_getElem? (i := 1017) (by decide +kernel))) rfl
theorem lk_1018 : Cond.selects RX11 yX11_image yX11_image ∈ zall := zall_mem (List.mem_append_right _ (List.mem_of_getElem? (i := 1018) (by decide +kernel))) rfl
theorem lk_1019 : Cond.code yX11_image cX11_image 1 (some .int) ∈ zall := zall_mem (List.mem_append_right _ (List.mem_of_getElem? (i := 1019) (by decide +kernel))) rfl
theorem lk_1278 : Cond.instanceMethod yX12_image ∈ zall := zall_mem (List.mem_append_right _ (List.mem_of_getElem? (i := 1278) (by decide +kernel))) rfl
theorem lk_1279 : Cond.selects RX12 yX12_image yX12_image ∈ zall := zall_mem (List.mem_append_right _ (List.mem_of_getElem? (i := 1279) (by decide +kernel))) rfl
theorem lk_1280 : Cond.code yX12_image cX12_image 1 (some .int) ∈ zall := zall_mem (List.mem_append_right _ (List.mem_of_getElem? (i := 1280) (by decide +kernel))) rfl
theorem lk_1021 : Cond.instanceMethod yX11_restore ∈ zall := zall_mem (List.mem_append_right _ (List.mem_of_getElem? (i := 1021) (by decide +kernel))) rfl
theorem lk_1022 : Cond.selects RX11 yX11_restore yX11_restore ∈ zall := zall_mem (List.mem_append_right _ (List.mem_of_getElem? (i := 1022) (by decide +kernel))) rfl
theorem lk_1023 : Cond.code yX11_restore cX11_restore 2 (some .int) ∈ zall := zall_mem (List.mem_append_right _ (List.mem_of_getElem? (i := 1023) (by decide +kernel))) rfl
theorem lk_1282 : Cond.instanceMethod yX12_restore ∈ zall := zall_mem (List.mem_append_right _ (List.mem_of_getElem? (i := 1282) (by decide +kernel))) rfl
theorem lk_1283 : Cond.selects RX12 yX12_restore yX12_restore ∈ zall := zall_mem (List.mem_append_right _ (List.mem_of_getElem? (i := 1283) (by decide +kernel))) rfl
theorem lk_1284 : Cond.code yX12_restore cX12_restore 1 (some .int) ∈ zall := zall_mem (List.mem_append_right _ (List.mem_of_getElem? (i := 1284) (by decide +kernel))) rfl
theorem lk_1025 : Cond.instanceMethod yX11_count ∈ zall := zall_mem (List.mem_append_right _ (List.mem_of_getElem? (i := 1025) (by decide +kernel))) rfl
theorem lk_1026 : Cond.selects RX11 yX11_count yX11_count ∈ zall := zall_mem (List.mem_append_right _ (List.mem_of_getElem? (i := 1026) (by decide +kernel))) rfl
theorem lk_1027 : Cond.code yX11_count cX11_count 2 (some .int) ∈ zall := zall_mem (List.mem_append_right _ (List.mem_of_getElem? (i := 1027) (by decide +kernel))) rfl
theorem lk_1658 : Cond.instanceMethod yX12_count ∈ zall := zall_mem (List.mem_append_right _ (List.mem_of_getElem? (i := 1658) (by decide +kernel))) rfl
theorem lk_1659 : Cond.selects RX12 yX12_count yX12_count ∈ zall := zall_mem (List.mem_append_right _ (List.mem_of_getElem? (i := 1659) (by decide +kernel))) rfl
theorem lk_1660 : Cond.code yX12_count cX12_count 4 (some .int) ∈ zall := zall_mem (List.mem_append_right _ (List.mem_of_getElem? (i := 1660) (by decide +kernel))) rfl
