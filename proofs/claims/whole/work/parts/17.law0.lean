theorem dl0 : decode code 0 = .ok (.new 7, 3) := by decide +kernel
theorem dl3 : decode code 3 = .ok (.dup, 1) := by decide +kernel
theorem dl4 : decode code 4 = .ok (.invokespecial 9, 3) := by decide +kernel
theorem dl7 : decode code 7 = .ok (.astore_n 1, 1) := by decide +kernel
theorem dl8 : decode code 8 = .ok (.new 10, 3) := by decide +kernel
theorem dl11 : decode code 11 = .ok (.dup, 1) := by decide +kernel
theorem dl12 : decode code 12 = .ok (.invokespecial 12, 3) := by decide +kernel
theorem dl15 : decode code 15 = .ok (.astore_n 2, 1) := by decide +kernel
theorem dl16 : decode code 16 = .ok (.iconst 0, 1) := by decide +kernel
theorem dl17 : decode code 17 = .ok (.istore_n 3, 1) := by decide +kernel
theorem dl18 : decode code 18 = .ok (.iload_n 3, 1) := by decide +kernel
theorem dl19 : decode code 19 = .ok (.aload_n 0, 1) := by decide +kernel
theorem dl20 : decode code 20 = .ok (.arraylength, 1) := by decide +kernel
theorem dl21 : decode code 21 = .ok (.bipush 7, 2) := by decide +kernel
theorem dl23 : decode code 23 = .ok (.isub, 1) := by decide +kernel
theorem dl24 : decode code 24 = .ok (.if_icmp .gt 1757, 3) := by decide +kernel
theorem dl27 : decode code 27 = .ok (.aload_n 0, 1) := by decide +kernel
theorem dl28 : decode code 28 = .ok (.iload_n 3, 1) := by decide +kernel
theorem dl29 : decode code 29 = .ok (.iaload, 1) := by decide +kernel
theorem dl30 : decode code 30 = .ok (.bipush 63, 2) := by decide +kernel
theorem dl32 : decode code 32 = .ok (.iand, 1) := by decide +kernel
theorem dl33 : decode code 33 = .ok (.tableswitch 1742 0 51 #[223, 236, 259, 282, 315, 348, 371, 404, 427, 460, 493, 526, 549, 572, 595, 618, 661, 684, 727, 760, 783, 826, 869, 912, 955, 968, 991, 1014, 1037, 1060, 1103, 1146, 1169, 1182, 1225, 1268, 1343, 1376, 1399, 1422, 1455, 1478, 1501, 1544, 1557, 1590, 1623, 1646, 1679, 1693, 1706, 1729], 223) := by decide +kernel
theorem dl256 : decode code 256 = .ok (.aload_n 1, 1) := by decide +kernel
theorem dl257 : decode code 257 = .ok (.invokevirtual 13, 3) := by decide +kernel
theorem dl260 : decode code 260 = .ok (.aload_n 2, 1) := by decide +kernel
theorem dl261 : decode code 261 = .ok (.invokevirtual 17, 3) := by decide +kernel
theorem dl264 : decode code 264 = .ok (.if_icmp .eq 1511, 3) := by decide +kernel
theorem dl267 : decode code 267 = .ok (.iconst 0, 1) := by decide +kernel
theorem dl268 : decode code 268 = .ok (.ireturn, 1) := by decide +kernel
theorem dl269 : decode code 269 = .ok (.aload_n 1, 1) := by decide +kernel
theorem dl270 : decode code 270 = .ok (.aload_n 0, 1) := by decide +kernel
theorem dl271 : decode code 271 = .ok (.iload_n 3, 1) := by decide +kernel
theorem dl272 : decode code 272 = .ok (.iconst 1, 1) := by decide +kernel
theorem dl273 : decode code 273 = .ok (.iadd, 1) := by decide +kernel
theorem dl274 : decode code 274 = .ok (.iaload, 1) := by decide +kernel
theorem dl275 : decode code 275 = .ok (.invokevirtual 18, 3) := by decide +kernel
theorem dl278 : decode code 278 = .ok (.aload_n 2, 1) := by decide +kernel
theorem dl279 : decode code 279 = .ok (.aload_n 0, 1) := by decide +kernel
theorem dl280 : decode code 280 = .ok (.iload_n 3, 1) := by decide +kernel
theorem dl281 : decode code 281 = .ok (.iconst 1, 1) := by decide +kernel
theorem dl282 : decode code 282 = .ok (.iadd, 1) := by decide +kernel
theorem dl283 : decode code 283 = .ok (.iaload, 1) := by decide +kernel
theorem dl284 : decode code 284 = .ok (.invokevirtual 22, 3) := by decide +kernel
theorem dl287 : decode code 287 = .ok (.if_icmp .eq 1488, 3) := by decide +kernel
theorem dl290 : decode code 290 = .ok (.iconst 0, 1) := by decide +kernel
theorem dl291 : decode code 291 = .ok (.ireturn, 1) := by decide +kernel
theorem dl292 : decode code 292 = .ok (.aload_n 1, 1) := by decide +kernel
theorem dl293 : decode code 293 = .ok (.aload_n 0, 1) := by decide +kernel
theorem dl294 : decode code 294 = .ok (.iload_n 3, 1) := by decide +kernel
theorem dl295 : decode code 295 = .ok (.iconst 1, 1) := by decide +kernel
theorem dl296 : decode code 296 = .ok (.iadd, 1) := by decide +kernel
theorem dl297 : decode code 297 = .ok (.iaload, 1) := by decide +kernel
theorem dl298 : decode code 298 = .ok (.invokevirtual 23, 3) := by decide +kernel
theorem dl301 : decode code 301 = .ok (.aload_n 2, 1) := by decide +kernel
theorem dl302 : decode code 302 = .ok (.aload_n 0, 1) := by decide +kernel
theorem dl303 : decode code 303 = .ok (.iload_n 3, 1) := by decide +kernel
theorem dl304 : decode code 304 = .ok (.iconst 1, 1) := by decide +kernel
theorem dl305 : decode code 305 = .ok (.iadd, 1) := by decide +kernel
theorem dl306 : decode code 306 = .ok (.iaload, 1) := by decide +kernel
theorem dl307 : decode code 307 = .ok (.invokevirtual 26, 3) := by decide +kernel
theorem dl310 : decode code 310 = .ok (.if_icmp .eq 1465, 3) := by decide +kernel
theorem dl313 : decode code 313 = .ok (.iconst 0, 1) := by decide +kernel
theorem dl314 : decode code 314 = .ok (.ireturn, 1) := by decide +kernel
theorem dl315 : decode code 315 = .ok (.aload_n 1, 1) := by decide +kernel
theorem dl316 : decode code 316 = .ok (.aload_n 0, 1) := by decide +kernel
theorem dl317 : decode code 317 = .ok (.iload_n 3, 1) := by decide +kernel
theorem dl318 : decode code 318 = .ok (.iconst 1, 1) := by decide +kernel
theorem dl319 : decode code 319 = .ok (.iadd, 1) := by decide +kernel
theorem dl320 : decode code 320 = .ok (.iaload, 1) := by decide +kernel
theorem dl321 : decode code 321 = .ok (.aload_n 0, 1) := by decide +kernel
theorem dl322 : decode code 322 = .ok (.iload_n 3, 1) := by decide +kernel
theorem dl323 : decode code 323 = .ok (.iconst 2, 1) := by decide +kernel
theorem dl324 : decode code 324 = .ok (.iadd, 1) := by decide +kernel
theorem dl325 : decode code 325 = .ok (.iaload, 1) := by decide +kernel
theorem dl326 : decode code 326 = .ok (.invokevirtual 27, 3) := by decide +kernel
theorem dl329 : decode code 329 = .ok (.aload_n 2, 1) := by decide +kernel
theorem dl330 : decode code 330 = .ok (.aload_n 0, 1) := by decide +kernel
theorem dl331 : decode code 331 = .ok (.iload_n 3, 1) := by decide +kernel
theorem dl332 : decode code 332 = .ok (.iconst 1, 1) := by decide +kernel
theorem dl333 : decode code 333 = .ok (.iadd, 1) := by decide +kernel
theorem dl334 : decode code 334 = .ok (.iaload, 1) := by decide +kernel
theorem dl335 : decode code 335 = .ok (.aload_n 0, 1) := by decide +kernel
theorem dl336 : decode code 336 = .ok (.iload_n 3, 1) := by decide +kernel
theorem dl337 : decode code 337 = .ok (.iconst 2, 1) := by decide +kernel
theorem dl338 : decode code 338 = .ok (.iadd, 1) := by decide +kernel
theorem dl339 : decode code 339 = .ok (.iaload, 1) := by decide +kernel
theorem dl340 : decode code 340 = .ok (.invokevirtual 31, 3) := by decide +kernel
theorem dl343 : decode code 343 = .ok (.if_icmp .eq 1432, 3) := by decide +kernel
theorem dl346 : decode code 346 = .ok (.iconst 0, 1) := by decide +kernel
theorem dl347 : decode code 347 = .ok (.ireturn, 1) := by decide +kernel
theorem dl348 : decode code 348 = .ok (.aload_n 1, 1) := by decide +kernel
theorem dl349 : decode code 349 = .ok (.aload_n 0, 1) := by decide +kernel
theorem dl350 : decode code 350 = .ok (.iload_n 3, 1) := by decide +kernel
theorem dl351 : decode code 351 = .ok (.iconst 1, 1) := by decide +kernel
theorem dl352 : decode code 352 = .ok (.iadd, 1) := by decide +kernel
theorem dl353 : decode code 353 = .ok (.iaload, 1) := by decide +kernel
theorem dl354 : decode code 354 = .ok (.aload_n 0, 1) := by decide +kernel
theorem dl355 : decode code 355 = .ok (.iload_n 3, 1) := by decide +kernel
theorem dl356 : decode code 356 = .ok (.iconst 2, 1) := by decide +kernel
theorem dl357 : decode code 357 = .ok (.iadd, 1) := by decide +kernel
theorem dl358 : decode code 358 = .ok (.iaload, 1) := by decide +kernel
theorem dl359 : decode code 359 = .ok (.invokevirtual 32, 3) := by decide +kernel
theorem dl362 : decode code 362 = .ok (.aload_n 2, 1) := by decide +kernel
theorem dl363 : decode code 363 = .ok (.aload_n 0, 1) := by decide +kernel
theorem dl364 : decode code 364 = .ok (.iload_n 3, 1) := by decide +kernel
theorem dl365 : decode code 365 = .ok (.iconst 1, 1) := by decide +kernel
theorem dl366 : decode code 366 = .ok (.iadd, 1) := by decide +kernel
theorem dl367 : decode code 367 = .ok (.iaload, 1) := by decide +kernel
theorem dl368 : decode code 368 = .ok (.aload_n 0, 1) := by decide +kernel
theorem dl369 : decode code 369 = .ok (.iload_n 3, 1) := by decide +kernel
theorem dl370 : decode code 370 = .ok (.iconst 2, 1) := by decide +kernel
theorem dl371 : decode code 371 = .ok (.iadd, 1) := by decide +kernel
theorem dl372 : decode code 372 = .ok (.iaload, 1) := by decide +kernel
theorem dl373 : decode code 373 = .ok (.invokevirtual 35, 3) := by decide +kernel
theorem dl376 : decode code 376 = .ok (.if_icmp .eq 1399, 3) := by decide +kernel
theorem dl379 : decode code 379 = .ok (.iconst 0, 1) := by decide +kernel
theorem dl380 : decode code 380 = .ok (.ireturn, 1) := by decide +kernel
theorem dl381 : decode code 381 = .ok (.aload_n 1, 1) := by decide +kernel
theorem dl382 : decode code 382 = .ok (.aload_n 0, 1) := by decide +kernel
theorem dl383 : decode code 383 = .ok (.iload_n 3, 1) := by decide +kernel
theorem dl384 : decode code 384 = .ok (.iconst 1, 1) := by decide +kernel
theorem dl385 : decode code 385 = .ok (.iadd, 1) := by decide +kernel
theorem dl386 : decode code 386 = .ok (.iaload, 1) := by decide +kernel
theorem dl387 : decode code 387 = .ok (.invokevirtual 36, 3) := by decide +kernel
theorem dl390 : decode code 390 = .ok (.aload_n 2, 1) := by decide +kernel
theorem dl391 : decode code 391 = .ok (.aload_n 0, 1) := by decide +kernel
theorem dl392 : decode code 392 = .ok (.iload_n 3, 1) := by decide +kernel
theorem dl393 : decode code 393 = .ok (.iconst 1, 1) := by decide +kernel
theorem dl394 : decode code 394 = .ok (.iadd, 1) := by decide +kernel
theorem dl395 : decode code 395 = .ok (.iaload, 1) := by decide +kernel
theorem dl396 : decode code 396 = .ok (.invokevirtual 39, 3) := by decide +kernel
theorem dl399 : decode code 399 = .ok (.if_icmp .eq 1376, 3) := by decide +kernel
theorem dl402 : decode code 402 = .ok (.iconst 0, 1) := by decide +kernel
theorem dl403 : decode code 403 = .ok (.ireturn, 1) := by decide +kernel
theorem dl404 : decode code 404 = .ok (.aload_n 1, 1) := by decide +kernel
theorem dl405 : decode code 405 = .ok (.aload_n 0, 1) := by decide +kernel
theorem dl406 : decode code 406 = .ok (.iload_n 3, 1) := by decide +kernel
theorem dl407 : decode code 407 = .ok (.iconst 1, 1) := by decide +kernel
theorem dl408 : decode code 408 = .ok (.iadd, 1) := by decide +kernel
theorem dl409 : decode code 409 = .ok (.iaload, 1) := by decide +kernel
theorem dl410 : decode code 410 = .ok (.aload_n 0, 1) := by decide +kernel
theorem dl411 : decode code 411 = .ok (.iload_n 3, 1) := by decide +kernel
theorem dl412 : decode code 412 = .ok (.iconst 2, 1) := by decide +kernel
theorem dl413 : decode code 413 = .ok (.iadd, 1) := by decide +kernel
theorem dl414 : decode code 414 = .ok (.iaload, 1) := by decide +kernel
theorem dl415 : decode code 415 = .ok (.invokevirtual 40, 3) := by decide +kernel
theorem dl418 : decode code 418 = .ok (.aload_n 2, 1) := by decide +kernel
theorem dl419 : decode code 419 = .ok (.aload_n 0, 1) := by decide +kernel
theorem dl420 : decode code 420 = .ok (.iload_n 3, 1) := by decide +kernel
theorem dl421 : decode code 421 = .ok (.iconst 1, 1) := by decide +kernel
theorem dl422 : decode code 422 = .ok (.iadd, 1) := by decide +kernel
theorem dl423 : decode code 423 = .ok (.iaload, 1) := by decide +kernel
theorem dl424 : decode code 424 = .ok (.aload_n 0, 1) := by decide +kernel
theorem dl425 : decode code 425 = .ok (.iload_n 3, 1) := by decide +kernel
theorem dl426 : decode code 426 = .ok (.iconst 2, 1) := by decide +kernel
theorem dl427 : decode code 427 = .ok (.iadd, 1) := by decide +kernel
theorem dl428 : decode code 428 = .ok (.iaload, 1) := by decide +kernel
theorem dl429 : decode code 429 = .ok (.invokevirtual 43, 3) := by decide +kernel
theorem dl432 : decode code 432 = .ok (.if_icmp .eq 1343, 3) := by decide +kernel
theorem dl435 : decode code 435 = .ok (.iconst 0, 1) := by decide +kernel
theorem dl436 : decode code 436 = .ok (.ireturn, 1) := by decide +kernel
theorem dl437 : decode code 437 = .ok (.aload_n 1, 1) := by decide +kernel
theorem dl438 : decode code 438 = .ok (.aload_n 0, 1) := by decide +kernel
theorem dl439 : decode code 439 = .ok (.iload_n 3, 1) := by decide +kernel
theorem dl440 : decode code 440 = .ok (.iconst 1, 1) := by decide +kernel
theorem dl441 : decode code 441 = .ok (.iadd, 1) := by decide +kernel
theorem dl442 : decode code 442 = .ok (.iaload, 1) := by decide +kernel
theorem dl443 : decode code 443 = .ok (.invokevirtual 44, 3) := by decide +kernel
theorem dl446 : decode code 446 = .ok (.aload_n 2, 1) := by decide +kernel
theorem dl447 : decode code 447 = .ok (.aload_n 0, 1) := by decide +kernel
theorem dl448 : decode code 448 = .ok (.iload_n 3, 1) := by decide +kernel
theorem dl449 : decode code 449 = .ok (.iconst 1, 1) := by decide +kernel
theorem dl450 : decode code 450 = .ok (.iadd, 1) := by decide +kernel
theorem dl451 : decode code 451 = .ok (.iaload, 1) := by decide +kernel
theorem dl452 : decode code 452 = .ok (.invokevirtual 47, 3) := by decide +kernel
theorem dl455 : decode code 455 = .ok (.if_icmp .eq 1320, 3) := by decide +kernel
theorem dl458 : decode code 458 = .ok (.iconst 0, 1) := by decide +kernel
theorem dl459 : decode code 459 = .ok (.ireturn, 1) := by decide +kernel
theorem dl460 : decode code 460 = .ok (.aload_n 1, 1) := by decide +kernel
theorem dl461 : decode code 461 = .ok (.aload_n 0, 1) := by decide +kernel
theorem dl462 : decode code 462 = .ok (.iload_n 3, 1) := by decide +kernel
theorem dl463 : decode code 463 = .ok (.iconst 1, 1) := by decide +kernel
theorem dl464 : decode code 464 = .ok (.iadd, 1) := by decide +kernel
theorem dl465 : decode code 465 = .ok (.iaload, 1) := by decide +kernel
theorem dl466 : decode code 466 = .ok (.aload_n 0, 1) := by decide +kernel
theorem dl467 : decode code 467 = .ok (.iload_n 3, 1) := by decide +kernel
theorem dl468 : decode code 468 = .ok (.iconst 2, 1) := by decide +kernel
theorem dl469 : decode code 469 = .ok (.iadd, 1) := by decide +kernel
theorem dl470 : decode code 470 = .ok (.iaload, 1) := by decide +kernel
theorem dl471 : decode code 471 = .ok (.invokevirtual 48, 3) := by decide +kernel
theorem dl474 : decode code 474 = .ok (.aload_n 2, 1) := by decide +kernel
theorem dl475 : decode code 475 = .ok (.aload_n 0, 1) := by decide +kernel
theorem dl476 : decode code 476 = .ok (.iload_n 3, 1) := by decide +kernel
theorem dl477 : decode code 477 = .ok (.iconst 1, 1) := by decide +kernel
theorem dl478 : decode code 478 = .ok (.iadd, 1) := by decide +kernel
theorem dl479 : decode code 479 = .ok (.iaload, 1) := by decide +kernel
theorem dl480 : decode code 480 = .ok (.aload_n 0, 1) := by decide +kernel
theorem dl481 : decode code 481 = .ok (.iload_n 3, 1) := by decide +kernel
theorem dl482 : decode code 482 = .ok (.iconst 2, 1) := by decide +kernel
theorem dl483 : decode code 483 = .ok (.iadd, 1) := by decide +kernel
theorem dl484 : decode code 484 = .ok (.iaload, 1) := by decide +kernel
theorem dl485 : decode code 485 = .ok (.invokevirtual 51, 3) := by decide +kernel
theorem dl488 : decode code 488 = .ok (.if_icmp .eq 1287, 3) := by decide +kernel
theorem dl491 : decode code 491 = .ok (.iconst 0, 1) := by decide +kernel
theorem dl492 : decode code 492 = .ok (.ireturn, 1) := by decide +kernel
theorem dl493 : decode code 493 = .ok (.aload_n 1, 1) := by decide +kernel
theorem dl494 : decode code 494 = .ok (.aload_n 0, 1) := by decide +kernel
theorem dl495 : decode code 495 = .ok (.iload_n 3, 1) := by decide +kernel
theorem dl496 : decode code 496 = .ok (.iconst 1, 1) := by decide +kernel
theorem dl497 : decode code 497 = .ok (.iadd, 1) := by decide +kernel
theorem dl498 : decode code 498 = .ok (.iaload, 1) := by decide +kernel
theorem dl499 : decode code 499 = .ok (.aload_n 0, 1) := by decide +kernel
theorem dl500 : decode code 500 = .ok (.iload_n 3, 1) := by decide +kernel
theorem dl501 : decode code 501 = .ok (.iconst 2, 1) := by decide +kernel
theorem dl502 : decode code 502 = .ok (.iadd, 1) := by decide +kernel
theorem dl503 : decode code 503 = .ok (.iaload, 1) := by decide +kernel
theorem dl504 : decode code 504 = .ok (.invokevirtual 52, 3) := by decide +kernel
theorem dl507 : decode code 507 = .ok (.aload_n 2, 1) := by decide +kernel
theorem dl508 : decode code 508 = .ok (.aload_n 0, 1) := by decide +kernel
theorem dl509 : decode code 509 = .ok (.iload_n 3, 1) := by decide +kernel
theorem dl510 : decode code 510 = .ok (.iconst 1, 1) := by decide +kernel
theorem dl511 : decode code 511 = .ok (.iadd, 1) := by decide +kernel
theorem dl512 : decode code 512 = .ok (.iaload, 1) := by decide +kernel
theorem dl513 : decode code 513 = .ok (.aload_n 0, 1) := by decide +kernel
theorem dl514 : decode code 514 = .ok (.iload_n 3, 1) := by decide +kernel
theorem dl515 : decode code 515 = .ok (.iconst 2, 1) := by decide +kernel
theorem dl516 : decode code 516 = .ok (.iadd, 1) := by decide +kernel
theorem dl517 : decode code 517 = .ok (.iaload, 1) := by decide +kernel
theorem dl518 : decode code 518 = .ok (.invokevirtual 55, 3) := by decide +kernel
theorem dl521 : decode code 521 = .ok (.if_icmp .eq 1254, 3) := by decide +kernel
theorem dl524 : decode code 524 = .ok (.iconst 0, 1) := by decide +kernel
theorem dl525 : decode code 525 = .ok (.ireturn, 1) := by decide +kernel
theorem dl526 : decode code 526 = .ok (.aload_n 1, 1) := by decide +kernel
theorem dl527 : decode code 527 = .ok (.aload_n 0, 1) := by decide +kernel
theorem dl528 : decode code 528 = .ok (.iload_n 3, 1) := by decide +kernel
theorem dl529 : decode code 529 = .ok (.iconst 1, 1) := by decide +kernel
theorem dl530 : decode code 530 = .ok (.iadd, 1) := by decide +kernel
theorem dl531 : decode code 531 = .ok (.iaload, 1) := by decide +kernel
theorem dl532 : decode code 532 = .ok (.aload_n 0, 1) := by decide +kernel
theorem dl533 : decode code 533 = .ok (.iload_n 3, 1) := by decide +kernel
theorem dl534 : decode code 534 = .ok (.iconst 2, 1) := by decide +kernel
theorem dl535 : decode code 535 = .ok (.iadd, 1) := by decide +kernel
theorem dl536 : decode code 536 = .ok (.iaload, 1) := by decide +kernel
theorem dl537 : decode code 537 = .ok (.invokevirtual 56, 3) := by decide +kernel
theorem dl540 : decode code 540 = .ok (.aload_n 2, 1) := by decide +kernel
theorem dl541 : decode code 541 = .ok (.aload_n 0, 1) := by decide +kernel
theorem dl542 : decode code 542 = .ok (.iload_n 3, 1) := by decide +kernel
theorem dl543 : decode code 543 = .ok (.iconst 1, 1) := by decide +kernel
theorem dl544 : decode code 544 = .ok (.iadd, 1) := by decide +kernel
theorem dl545 : decode code 545 = .ok (.iaload, 1) := by decide +kernel
theorem dl546 : decode code 546 = .ok (.aload_n 0, 1) := by decide +kernel
theorem dl547 : decode code 547 = .ok (.iload_n 3, 1) := by decide +kernel
theorem dl548 : decode code 548 = .ok (.iconst 2, 1) := by decide +kernel
theorem dl549 : decode code 549 = .ok (.iadd, 1) := by decide +kernel
theorem dl550 : decode code 550 = .ok (.iaload, 1) := by decide +kernel
theorem dl551 : decode code 551 = .ok (.invokevirtual 59, 3) := by decide +kernel
theorem dl554 : decode code 554 = .ok (.if_icmp .eq 1221, 3) := by decide +kernel
theorem dl557 : decode code 557 = .ok (.iconst 0, 1) := by decide +kernel
theorem dl558 : decode code 558 = .ok (.ireturn, 1) := by decide +kernel
theorem dl559 : decode code 559 = .ok (.aload_n 1, 1) := by decide +kernel
theorem dl560 : decode code 560 = .ok (.aload_n 0, 1) := by decide +kernel
theorem dl561 : decode code 561 = .ok (.iload_n 3, 1) := by decide +kernel
theorem dl562 : decode code 562 = .ok (.iconst 1, 1) := by decide +kernel
theorem dl563 : decode code 563 = .ok (.iadd, 1) := by decide +kernel
theorem dl564 : decode code 564 = .ok (.iaload, 1) := by decide +kernel
theorem dl565 : decode code 565 = .ok (.invokevirtual 60, 3) := by decide +kernel
theorem dl568 : decode code 568 = .ok (.aload_n 2, 1) := by decide +kernel
theorem dl569 : decode code 569 = .ok (.aload_n 0, 1) := by decide +kernel
theorem dl570 : decode code 570 = .ok (.iload_n 3, 1) := by decide +kernel
theorem dl571 : decode code 571 = .ok (.iconst 1, 1) := by decide +kernel
theorem dl572 : decode code 572 = .ok (.iadd, 1) := by decide +kernel
theorem dl573 : decode code 573 = .ok (.iaload, 1) := by decide +kernel
theorem dl574 : decode code 574 = .ok (.invokevirtual 63, 3) := by decide +kernel
theorem dl577 : decode code 577 = .ok (.if_icmp .eq 1198, 3) := by decide +kernel
theorem dl580 : decode code 580 = .ok (.iconst 0, 1) := by decide +kernel
theorem dl581 : decode code 581 = .ok (.ireturn, 1) := by decide +kernel
theorem dl582 : decode code 582 = .ok (.aload_n 1, 1) := by decide +kernel
theorem dl583 : decode code 583 = .ok (.aload_n 0, 1) := by decide +kernel
theorem dl584 : decode code 584 = .ok (.iload_n 3, 1) := by decide +kernel
theorem dl585 : decode code 585 = .ok (.iconst 1, 1) := by decide +kernel
theorem dl586 : decode code 586 = .ok (.iadd, 1) := by decide +kernel
theorem dl587 : decode code 587 = .ok (.iaload, 1) := by decide +kernel
theorem dl588 : decode code 588 = .ok (.invokevirtual 64, 3) := by decide +kernel
theorem dl591 : decode code 591 = .ok (.aload_n 2, 1) := by decide +kernel
theorem dl592 : decode code 592 = .ok (.aload_n 0, 1) := by decide +kernel
theorem dl593 : decode code 593 = .ok (.iload_n 3, 1) := by decide +kernel
theorem dl594 : decode code 594 = .ok (.iconst 1, 1) := by decide +kernel
theorem dl595 : decode code 595 = .ok (.iadd, 1) := by decide +kernel
theorem dl596 : decode code 596 = .ok (.iaload, 1) := by decide +kernel
theorem dl597 : decode code 597 = .ok (.invokevirtual 67, 3) := by decide +kernel
theorem dl600 : decode code 600 = .ok (.if_icmp .eq 1175, 3) := by decide +kernel
theorem dl603 : decode code 603 = .ok (.iconst 0, 1) := by decide +kernel
theorem dl604 : decode code 604 = .ok (.ireturn, 1) := by decide +kernel
theorem dl605 : decode code 605 = .ok (.aload_n 1, 1) := by decide +kernel
theorem dl606 : decode code 606 = .ok (.aload_n 0, 1) := by decide +kernel
theorem dl607 : decode code 607 = .ok (.iload_n 3, 1) := by decide +kernel
theorem dl608 : decode code 608 = .ok (.iconst 1, 1) := by decide +kernel
theorem dl609 : decode code 609 = .ok (.iadd, 1) := by decide +kernel
theorem dl610 : decode code 610 = .ok (.iaload, 1) := by decide +kernel
theorem dl611 : decode code 611 = .ok (.invokevirtual 68, 3) := by decide +kernel
theorem dl614 : decode code 614 = .ok (.aload_n 2, 1) := by decide +kernel
theorem dl615 : decode code 615 = .ok (.aload_n 0, 1) := by decide +kernel
theorem dl616 : decode code 616 = .ok (.iload_n 3, 1) := by decide +kernel
theorem dl617 : decode code 617 = .ok (.iconst 1, 1) := by decide +kernel
theorem dl618 : decode code 618 = .ok (.iadd, 1) := by decide +kernel
theorem dl619 : decode code 619 = .ok (.iaload, 1) := by decide +kernel
theorem dl620 : decode code 620 = .ok (.invokevirtual 71, 3) := by decide +kernel
theorem dl623 : decode code 623 = .ok (.if_icmp .eq 1152, 3) := by decide +kernel
theorem dl626 : decode code 626 = .ok (.iconst 0, 1) := by decide +kernel
theorem dl627 : decode code 627 = .ok (.ireturn, 1) := by decide +kernel
theorem dl628 : decode code 628 = .ok (.aload_n 1, 1) := by decide +kernel
theorem dl629 : decode code 629 = .ok (.aload_n 0, 1) := by decide +kernel
theorem dl630 : decode code 630 = .ok (.iload_n 3, 1) := by decide +kernel
theorem dl631 : decode code 631 = .ok (.iconst 1, 1) := by decide +kernel
theorem dl632 : decode code 632 = .ok (.iadd, 1) := by decide +kernel
theorem dl633 : decode code 633 = .ok (.iaload, 1) := by decide +kernel
theorem dl634 : decode code 634 = .ok (.invokevirtual 72, 3) := by decide +kernel
theorem dl637 : decode code 637 = .ok (.aload_n 2, 1) := by decide +kernel
theorem dl638 : decode code 638 = .ok (.aload_n 0, 1) := by decide +kernel
theorem dl639 : decode code 639 = .ok (.iload_n 3, 1) := by decide +kernel
theorem dl640 : decode code 640 = .ok (.iconst 1, 1) := by decide +kernel
theorem dl641 : decode code 641 = .ok (.iadd, 1) := by decide +kernel
theorem dl642 : decode code 642 = .ok (.iaload, 1) := by decide +kernel
theorem dl643 : decode code 643 = .ok (.invokevirtual 75, 3) := by decide +kernel
theorem dl646 : decode code 646 = .ok (.if_icmp .eq 1129, 3) := by decide +kernel
theorem dl649 : decode code 649 = .ok (.iconst 0, 1) := by decide +kernel
theorem dl650 : decode code 650 = .ok (.ireturn, 1) := by decide +kernel
theorem dl651 : decode code 651 = .ok (.aload_n 1, 1) := by decide +kernel
theorem dl652 : decode code 652 = .ok (.aload_n 0, 1) := by decide +kernel
theorem dl653 : decode code 653 = .ok (.iload_n 3, 1) := by decide +kernel
theorem dl654 : decode code 654 = .ok (.iconst 1, 1) := by decide +kernel
theorem dl655 : decode code 655 = .ok (.iadd, 1) := by decide +kernel
theorem dl656 : decode code 656 = .ok (.iaload, 1) := by decide +kernel
theorem dl657 : decode code 657 = .ok (.aload_n 0, 1) := by decide +kernel
theorem dl658 : decode code 658 = .ok (.iload_n 3, 1) := by decide +kernel
theorem dl659 : decode code 659 = .ok (.iconst 2, 1) := by decide +kernel
theorem dl660 : decode code 660 = .ok (.iadd, 1) := by decide +kernel
theorem dl661 : decode code 661 = .ok (.iaload, 1) := by decide +kernel
theorem dl662 : decode code 662 = .ok (.aload_n 0, 1) := by decide +kernel
theorem dl663 : decode code 663 = .ok (.iload_n 3, 1) := by decide +kernel
theorem dl664 : decode code 664 = .ok (.iconst 3, 1) := by decide +kernel
theorem dl665 : decode code 665 = .ok (.iadd, 1) := by decide +kernel
theorem dl666 : decode code 666 = .ok (.iaload, 1) := by decide +kernel
theorem dl667 : decode code 667 = .ok (.invokevirtual 76, 3) := by decide +kernel
theorem dl670 : decode code 670 = .ok (.aload_n 2, 1) := by decide +kernel
theorem dl671 : decode code 671 = .ok (.aload_n 0, 1) := by decide +kernel
theorem dl672 : decode code 672 = .ok (.iload_n 3, 1) := by decide +kernel
theorem dl673 : decode code 673 = .ok (.iconst 1, 1) := by decide +kernel
theorem dl674 : decode code 674 = .ok (.iadd, 1) := by decide +kernel
theorem dl675 : decode code 675 = .ok (.iaload, 1) := by decide +kernel
theorem dl676 : decode code 676 = .ok (.aload_n 0, 1) := by decide +kernel
theorem dl677 : decode code 677 = .ok (.iload_n 3, 1) := by decide +kernel
theorem dl678 : decode code 678 = .ok (.iconst 2, 1) := by decide +kernel
theorem dl679 : decode code 679 = .ok (.iadd, 1) := by decide +kernel
theorem dl680 : decode code 680 = .ok (.iaload, 1) := by decide +kernel
theorem dl681 : decode code 681 = .ok (.aload_n 0, 1) := by decide +kernel
theorem dl682 : decode code 682 = .ok (.iload_n 3, 1) := by decide +kernel
theorem dl683 : decode code 683 = .ok (.iconst 3, 1) := by decide +kernel
theorem dl684 : decode code 684 = .ok (.iadd, 1) := by decide +kernel
theorem dl685 : decode code 685 = .ok (.iaload, 1) := by decide +kernel
theorem dl686 : decode code 686 = .ok (.invokevirtual 80, 3) := by decide +kernel
theorem dl689 : decode code 689 = .ok (.if_icmp .eq 1086, 3) := by decide +kernel
theorem dl692 : decode code 692 = .ok (.iconst 0, 1) := by decide +kernel
theorem dl693 : decode code 693 = .ok (.ireturn, 1) := by decide +kernel
theorem dl694 : decode code 694 = .ok (.aload_n 1, 1) := by decide +kernel
theorem dl695 : decode code 695 = .ok (.aload_n 0, 1) := by decide +kernel
theorem dl696 : decode code 696 = .ok (.iload_n 3, 1) := by decide +kernel
theorem dl697 : decode code 697 = .ok (.iconst 1, 1) := by decide +kernel
theorem dl698 : decode code 698 = .ok (.iadd, 1) := by decide +kernel
theorem dl699 : decode code 699 = .ok (.iaload, 1) := by decide +kernel
theorem dl700 : decode code 700 = .ok (.invokevirtual 81, 3) := by decide +kernel
theorem dl703 : decode code 703 = .ok (.aload_n 2, 1) := by decide +kernel
theorem dl704 : decode code 704 = .ok (.aload_n 0, 1) := by decide +kernel
theorem dl705 : decode code 705 = .ok (.iload_n 3, 1) := by decide +kernel
theorem dl706 : decode code 706 = .ok (.iconst 1, 1) := by decide +kernel
theorem dl707 : decode code 707 = .ok (.iadd, 1) := by decide +kernel
theorem dl708 : decode code 708 = .ok (.iaload, 1) := by decide +kernel
theorem dl709 : decode code 709 = .ok (.invokevirtual 84, 3) := by decide +kernel
theorem dl712 : decode code 712 = .ok (.if_icmp .eq 1063, 3) := by decide +kernel
theorem dl715 : decode code 715 = .ok (.iconst 0, 1) := by decide +kernel
theorem dl716 : decode code 716 = .ok (.ireturn, 1) := by decide +kernel
theorem dl717 : decode code 717 = .ok (.aload_n 1, 1) := by decide +kernel
theorem dl718 : decode code 718 = .ok (.aload_n 0, 1) := by decide +kernel
theorem dl719 : decode code 719 = .ok (.iload_n 3, 1) := by decide +kernel
theorem dl720 : decode code 720 = .ok (.iconst 1, 1) := by decide +kernel
theorem dl721 : decode code 721 = .ok (.iadd, 1) := by decide +kernel
theorem dl722 : decode code 722 = .ok (.iaload, 1) := by decide +kernel
theorem dl723 : decode code 723 = .ok (.aload_n 0, 1) := by decide +kernel
theorem dl724 : decode code 724 = .ok (.iload_n 3, 1) := by decide +kernel
theorem dl725 : decode code 725 = .ok (.iconst 2, 1) := by decide +kernel
theorem dl726 : decode code 726 = .ok (.iadd, 1) := by decide +kernel
theorem dl727 : decode code 727 = .ok (.iaload, 1) := by decide +kernel
theorem dl728 : decode code 728 = .ok (.aload_n 0, 1) := by decide +kernel
theorem dl729 : decode code 729 = .ok (.iload_n 3, 1) := by decide +kernel
theorem dl730 : decode code 730 = .ok (.iconst 3, 1) := by decide +kernel
theorem dl731 : decode code 731 = .ok (.iadd, 1) := by decide +kernel
theorem dl732 : decode code 732 = .ok (.iaload, 1) := by decide +kernel
theorem dl733 : decode code 733 = .ok (.invokevirtual 85, 3) := by decide +kernel
theorem dl736 : decode code 736 = .ok (.aload_n 2, 1) := by decide +kernel
theorem dl737 : decode code 737 = .ok (.aload_n 0, 1) := by decide +kernel
theorem dl738 : decode code 738 = .ok (.iload_n 3, 1) := by decide +kernel
theorem dl739 : decode code 739 = .ok (.iconst 1, 1) := by decide +kernel
theorem dl740 : decode code 740 = .ok (.iadd, 1) := by decide +kernel
theorem dl741 : decode code 741 = .ok (.iaload, 1) := by decide +kernel
theorem dl742 : decode code 742 = .ok (.aload_n 0, 1) := by decide +kernel
theorem dl743 : decode code 743 = .ok (.iload_n 3, 1) := by decide +kernel
theorem dl744 : decode code 744 = .ok (.iconst 2, 1) := by decide +kernel
theorem dl745 : decode code 745 = .ok (.iadd, 1) := by decide +kernel
theorem dl746 : decode code 746 = .ok (.iaload, 1) := by decide +kernel
theorem dl747 : decode code 747 = .ok (.aload_n 0, 1) := by decide +kernel
theorem dl748 : decode code 748 = .ok (.iload_n 3, 1) := by decide +kernel
theorem dl749 : decode code 749 = .ok (.iconst 3, 1) := by decide +kernel
theorem dl750 : decode code 750 = .ok (.iadd, 1) := by decide +kernel
theorem dl751 : decode code 751 = .ok (.iaload, 1) := by decide +kernel
theorem dl752 : decode code 752 = .ok (.invokevirtual 88, 3) := by decide +kernel
theorem dl755 : decode code 755 = .ok (.if_icmp .eq 1020, 3) := by decide +kernel
theorem dl758 : decode code 758 = .ok (.iconst 0, 1) := by decide +kernel
theorem dl759 : decode code 759 = .ok (.ireturn, 1) := by decide +kernel
theorem dl760 : decode code 760 = .ok (.aload_n 1, 1) := by decide +kernel
theorem dl761 : decode code 761 = .ok (.aload_n 0, 1) := by decide +kernel
theorem dl762 : decode code 762 = .ok (.iload_n 3, 1) := by decide +kernel
theorem dl763 : decode code 763 = .ok (.iconst 1, 1) := by decide +kernel
theorem dl764 : decode code 764 = .ok (.iadd, 1) := by decide +kernel
theorem dl765 : decode code 765 = .ok (.iaload, 1) := by decide +kernel
theorem dl766 : decode code 766 = .ok (.aload_n 0, 1) := by decide +kernel
theorem dl767 : decode code 767 = .ok (.iload_n 3, 1) := by decide +kernel
theorem dl768 : decode code 768 = .ok (.iconst 2, 1) := by decide +kernel
theorem dl769 : decode code 769 = .ok (.iadd, 1) := by decide +kernel
theorem dl770 : decode code 770 = .ok (.iaload, 1) := by decide +kernel
theorem dl771 : decode code 771 = .ok (.invokevirtual 89, 3) := by decide +kernel
theorem dl774 : decode code 774 = .ok (.aload_n 2, 1) := by decide +kernel
theorem dl775 : decode code 775 = .ok (.aload_n 0, 1) := by decide +kernel
theorem dl776 : decode code 776 = .ok (.iload_n 3, 1) := by decide +kernel
theorem dl777 : decode code 777 = .ok (.iconst 1, 1) := by decide +kernel
theorem dl778 : decode code 778 = .ok (.iadd, 1) := by decide +kernel
theorem dl779 : decode code 779 = .ok (.iaload, 1) := by decide +kernel
theorem dl780 : decode code 780 = .ok (.aload_n 0, 1) := by decide +kernel
theorem dl781 : decode code 781 = .ok (.iload_n 3, 1) := by decide +kernel
theorem dl782 : decode code 782 = .ok (.iconst 2, 1) := by decide +kernel
theorem dl783 : decode code 783 = .ok (.iadd, 1) := by decide +kernel
theorem dl784 : decode code 784 = .ok (.iaload, 1) := by decide +kernel
theorem dl785 : decode code 785 = .ok (.invokevirtual 92, 3) := by decide +kernel
theorem dl788 : decode code 788 = .ok (.if_icmp .eq 987, 3) := by decide +kernel
theorem dl791 : decode code 791 = .ok (.iconst 0, 1) := by decide +kernel
theorem dl792 : decode code 792 = .ok (.ireturn, 1) := by decide +kernel
theorem dl793 : decode code 793 = .ok (.aload_n 1, 1) := by decide +kernel
theorem dl794 : decode code 794 = .ok (.aload_n 0, 1) := by decide +kernel
theorem dl795 : decode code 795 = .ok (.iload_n 3, 1) := by decide +kernel
theorem dl796 : decode code 796 = .ok (.iconst 1, 1) := by decide +kernel
theorem dl797 : decode code 797 = .ok (.iadd, 1) := by decide +kernel
theorem dl798 : decode code 798 = .ok (.iaload, 1) := by decide +kernel
theorem dl799 : decode code 799 = .ok (.invokevirtual 93, 3) := by decide +kernel
theorem dl802 : decode code 802 = .ok (.aload_n 2, 1) := by decide +kernel
theorem dl803 : decode code 803 = .ok (.aload_n 0, 1) := by decide +kernel
theorem dl804 : decode code 804 = .ok (.iload_n 3, 1) := by decide +kernel
theorem dl805 : decode code 805 = .ok (.iconst 1, 1) := by decide +kernel
theorem dl806 : decode code 806 = .ok (.iadd, 1) := by decide +kernel
theorem dl807 : decode code 807 = .ok (.iaload, 1) := by decide +kernel
theorem dl808 : decode code 808 = .ok (.invokevirtual 96, 3) := by decide +kernel
theorem dl811 : decode code 811 = .ok (.if_icmp .eq 964, 3) := by decide +kernel
theorem dl814 : decode code 814 = .ok (.iconst 0, 1) := by decide +kernel
theorem dl815 : decode code 815 = .ok (.ireturn, 1) := by decide +kernel
theorem dl816 : decode code 816 = .ok (.aload_n 1, 1) := by decide +kernel
theorem dl817 : decode code 817 = .ok (.aload_n 0, 1) := by decide +kernel
theorem dl818 : decode code 818 = .ok (.iload_n 3, 1) := by decide +kernel
theorem dl819 : decode code 819 = .ok (.iconst 1, 1) := by decide +kernel
theorem dl820 : decode code 820 = .ok (.iadd, 1) := by decide +kernel
theorem dl821 : decode code 821 = .ok (.iaload, 1) := by decide +kernel
theorem dl822 : decode code 822 = .ok (.aload_n 0, 1) := by decide +kernel
theorem dl823 : decode code 823 = .ok (.iload_n 3, 1) := by decide +kernel
theorem dl824 : decode code 824 = .ok (.iconst 2, 1) := by decide +kernel
theorem dl825 : decode code 825 = .ok (.iadd, 1) := by decide +kernel
theorem dl826 : decode code 826 = .ok (.iaload, 1) := by decide +kernel
theorem dl827 : decode code 827 = .ok (.aload_n 0, 1) := by decide +kernel
theorem dl828 : decode code 828 = .ok (.iload_n 3, 1) := by decide +kernel
theorem dl829 : decode code 829 = .ok (.iconst 3, 1) := by decide +kernel
theorem dl830 : decode code 830 = .ok (.iadd, 1) := by decide +kernel
theorem dl831 : decode code 831 = .ok (.iaload, 1) := by decide +kernel
theorem dl832 : decode code 832 = .ok (.invokevirtual 97, 3) := by decide +kernel
theorem dl835 : decode code 835 = .ok (.aload_n 2, 1) := by decide +kernel
theorem dl836 : decode code 836 = .ok (.aload_n 0, 1) := by decide +kernel
theorem dl837 : decode code 837 = .ok (.iload_n 3, 1) := by decide +kernel
theorem dl838 : decode code 838 = .ok (.iconst 1, 1) := by decide +kernel
theorem dl839 : decode code 839 = .ok (.iadd, 1) := by decide +kernel
theorem dl840 : decode code 840 = .ok (.iaload, 1) := by decide +kernel
theorem dl841 : decode code 841 = .ok (.aload_n 0, 1) := by decide +kernel
theorem dl842 : decode code 842 = .ok (.iload_n 3, 1) := by decide +kernel
theorem dl843 : decode code 843 = .ok (.iconst 2, 1) := by decide +kernel
theorem dl844 : decode code 844 = .ok (.iadd, 1) := by decide +kernel
theorem dl845 : decode code 845 = .ok (.iaload, 1) := by decide +kernel
theorem dl846 : decode code 846 = .ok (.aload_n 0, 1) := by decide +kernel
theorem dl847 : decode code 847 = .ok (.iload_n 3, 1) := by decide +kernel
theorem dl848 : decode code 848 = .ok (.iconst 3, 1) := by decide +kernel
theorem dl849 : decode code 849 = .ok (.iadd, 1) := by decide +kernel
theorem dl850 : decode code 850 = .ok (.iaload, 1) := by decide +kernel
theorem dl851 : decode code 851 = .ok (.invokevirtual 100, 3) := by decide +kernel
theorem dl854 : decode code 854 = .ok (.if_icmp .eq 921, 3) := by decide +kernel
theorem dl857 : decode code 857 = .ok (.iconst 0, 1) := by decide +kernel
theorem dl858 : decode code 858 = .ok (.ireturn, 1) := by decide +kernel
theorem dl859 : decode code 859 = .ok (.aload_n 1, 1) := by decide +kernel
theorem dl860 : decode code 860 = .ok (.aload_n 0, 1) := by decide +kernel
theorem dl861 : decode code 861 = .ok (.iload_n 3, 1) := by decide +kernel
theorem dl862 : decode code 862 = .ok (.iconst 1, 1) := by decide +kernel
theorem dl863 : decode code 863 = .ok (.iadd, 1) := by decide +kernel
theorem dl864 : decode code 864 = .ok (.iaload, 1) := by decide +kernel
theorem dl865 : decode code 865 = .ok (.aload_n 0, 1) := by decide +kernel
theorem dl866 : decode code 866 = .ok (.iload_n 3, 1) := by decide +kernel
theorem dl867 : decode code 867 = .ok (.iconst 2, 1) := by decide +kernel
theorem dl868 : decode code 868 = .ok (.iadd, 1) := by decide +kernel
theorem dl869 : decode code 869 = .ok (.iaload, 1) := by decide +kernel
theorem dl870 : decode code 870 = .ok (.aload_n 0, 1) := by decide +kernel
theorem dl871 : decode code 871 = .ok (.iload_n 3, 1) := by decide +kernel
theorem dl872 : decode code 872 = .ok (.iconst 3, 1) := by decide +kernel
theorem dl873 : decode code 873 = .ok (.iadd, 1) := by decide +kernel
theorem dl874 : decode code 874 = .ok (.iaload, 1) := by decide +kernel
theorem dl875 : decode code 875 = .ok (.invokevirtual 101, 3) := by decide +kernel
theorem dl878 : decode code 878 = .ok (.aload_n 2, 1) := by decide +kernel
theorem dl879 : decode code 879 = .ok (.aload_n 0, 1) := by decide +kernel
theorem dl880 : decode code 880 = .ok (.iload_n 3, 1) := by decide +kernel
theorem dl881 : decode code 881 = .ok (.iconst 1, 1) := by decide +kernel
theorem dl882 : decode code 882 = .ok (.iadd, 1) := by decide +kernel
theorem dl883 : decode code 883 = .ok (.iaload, 1) := by decide +kernel
theorem dl884 : decode code 884 = .ok (.aload_n 0, 1) := by decide +kernel
theorem dl885 : decode code 885 = .ok (.iload_n 3, 1) := by decide +kernel
theorem dl886 : decode code 886 = .ok (.iconst 2, 1) := by decide +kernel
theorem dl887 : decode code 887 = .ok (.iadd, 1) := by decide +kernel
theorem dl888 : decode code 888 = .ok (.iaload, 1) := by decide +kernel
theorem dl889 : decode code 889 = .ok (.aload_n 0, 1) := by decide +kernel
theorem dl890 : decode code 890 = .ok (.iload_n 3, 1) := by decide +kernel
theorem dl891 : decode code 891 = .ok (.iconst 3, 1) := by decide +kernel
theorem dl892 : decode code 892 = .ok (.iadd, 1) := by decide +kernel
theorem dl893 : decode code 893 = .ok (.iaload, 1) := by decide +kernel
theorem dl894 : decode code 894 = .ok (.invokevirtual 104, 3) := by decide +kernel
theorem dl897 : decode code 897 = .ok (.if_icmp .eq 878, 3) := by decide +kernel
theorem dl900 : decode code 900 = .ok (.iconst 0, 1) := by decide +kernel
theorem dl901 : decode code 901 = .ok (.ireturn, 1) := by decide +kernel
theorem dl902 : decode code 902 = .ok (.aload_n 1, 1) := by decide +kernel
theorem dl903 : decode code 903 = .ok (.aload_n 0, 1) := by decide +kernel
theorem dl904 : decode code 904 = .ok (.iload_n 3, 1) := by decide +kernel
theorem dl905 : decode code 905 = .ok (.iconst 1, 1) := by decide +kernel
theorem dl906 : decode code 906 = .ok (.iadd, 1) := by decide +kernel
theorem dl907 : decode code 907 = .ok (.iaload, 1) := by decide +kernel
theorem dl908 : decode code 908 = .ok (.aload_n 0, 1) := by decide +kernel
theorem dl909 : decode code 909 = .ok (.iload_n 3, 1) := by decide +kernel
theorem dl910 : decode code 910 = .ok (.iconst 2, 1) := by decide +kernel
theorem dl911 : decode code 911 = .ok (.iadd, 1) := by decide +kernel
theorem dl912 : decode code 912 = .ok (.iaload, 1) := by decide +kernel
theorem dl913 : decode code 913 = .ok (.aload_n 0, 1) := by decide +kernel
theorem dl914 : decode code 914 = .ok (.iload_n 3, 1) := by decide +kernel
theorem dl915 : decode code 915 = .ok (.iconst 3, 1) := by decide +kernel
theorem dl916 : decode code 916 = .ok (.iadd, 1) := by decide +kernel
theorem dl917 : decode code 917 = .ok (.iaload, 1) := by decide +kernel
theorem dl918 : decode code 918 = .ok (.invokevirtual 105, 3) := by decide +kernel
theorem dl921 : decode code 921 = .ok (.aload_n 2, 1) := by decide +kernel
theorem dl922 : decode code 922 = .ok (.aload_n 0, 1) := by decide +kernel
theorem dl923 : decode code 923 = .ok (.iload_n 3, 1) := by decide +kernel
theorem dl924 : decode code 924 = .ok (.iconst 1, 1) := by decide +kernel
theorem dl925 : decode code 925 = .ok (.iadd, 1) := by decide +kernel
theorem dl926 : decode code 926 = .ok (.iaload, 1) := by decide +kernel
theorem dl927 : decode code 927 = .ok (.aload_n 0, 1) := by decide +kernel
theorem dl928 : decode code 928 = .ok (.iload_n 3, 1) := by decide +kernel
theorem dl929 : decode code 929 = .ok (.iconst 2, 1) := by decide +kernel
theorem dl930 : decode code 930 = .ok (.iadd, 1) := by decide +kernel
theorem dl931 : decode code 931 = .ok (.iaload, 1) := by decide +kernel
theorem dl932 : decode code 932 = .ok (.aload_n 0, 1) := by decide +kernel
theorem dl933 : decode code 933 = .ok (.iload_n 3, 1) := by decide +kernel
theorem dl934 : decode code 934 = .ok (.iconst 3, 1) := by decide +kernel
theorem dl935 : decode code 935 = .ok (.iadd, 1) := by decide +kernel
theorem dl936 : decode code 936 = .ok (.iaload, 1) := by decide +kernel
theorem dl937 : decode code 937 = .ok (.invokevirtual 108, 3) := by decide +kernel
theorem dl940 : decode code 940 = .ok (.if_icmp .eq 835, 3) := by decide +kernel
theorem dl943 : decode code 943 = .ok (.iconst 0, 1) := by decide +kernel
theorem dl944 : decode code 944 = .ok (.ireturn, 1) := by decide +kernel
theorem dl945 : decode code 945 = .ok (.aload_n 1, 1) := by decide +kernel
theorem dl946 : decode code 946 = .ok (.aload_n 0, 1) := by decide +kernel
theorem dl947 : decode code 947 = .ok (.iload_n 3, 1) := by decide +kernel
theorem dl948 : decode code 948 = .ok (.iconst 1, 1) := by decide +kernel
theorem dl949 : decode code 949 = .ok (.iadd, 1) := by decide +kernel
theorem dl950 : decode code 950 = .ok (.iaload, 1) := by decide +kernel
theorem dl951 : decode code 951 = .ok (.aload_n 0, 1) := by decide +kernel
theorem dl952 : decode code 952 = .ok (.iload_n 3, 1) := by decide +kernel
theorem dl953 : decode code 953 = .ok (.iconst 2, 1) := by decide +kernel
theorem dl954 : decode code 954 = .ok (.iadd, 1) := by decide +kernel
theorem dl955 : decode code 955 = .ok (.iaload, 1) := by decide +kernel
theorem dl956 : decode code 956 = .ok (.aload_n 0, 1) := by decide +kernel
theorem dl957 : decode code 957 = .ok (.iload_n 3, 1) := by decide +kernel
theorem dl958 : decode code 958 = .ok (.iconst 3, 1) := by decide +kernel
theorem dl959 : decode code 959 = .ok (.iadd, 1) := by decide +kernel
theorem dl960 : decode code 960 = .ok (.iaload, 1) := by decide +kernel
theorem dl961 : decode code 961 = .ok (.invokevirtual 109, 3) := by decide +kernel
theorem dl964 : decode code 964 = .ok (.aload_n 2, 1) := by decide +kernel
theorem dl965 : decode code 965 = .ok (.aload_n 0, 1) := by decide +kernel
theorem dl966 : decode code 966 = .ok (.iload_n 3, 1) := by decide +kernel
theorem dl967 : decode code 967 = .ok (.iconst 1, 1) := by decide +kernel
theorem dl968 : decode code 968 = .ok (.iadd, 1) := by decide +kernel
theorem dl969 : decode code 969 = .ok (.iaload, 1) := by decide +kernel
theorem dl970 : decode code 970 = .ok (.aload_n 0, 1) := by decide +kernel
theorem dl971 : decode code 971 = .ok (.iload_n 3, 1) := by decide +kernel
theorem dl972 : decode code 972 = .ok (.iconst 2, 1) := by decide +kernel
theorem dl973 : decode code 973 = .ok (.iadd, 1) := by decide +kernel
theorem dl974 : decode code 974 = .ok (.iaload, 1) := by decide +kernel
theorem dl975 : decode code 975 = .ok (.aload_n 0, 1) := by decide +kernel
theorem dl976 : decode code 976 = .ok (.iload_n 3, 1) := by decide +kernel
theorem dl977 : decode code 977 = .ok (.iconst 3, 1) := by decide +kernel
theorem dl978 : decode code 978 = .ok (.iadd, 1) := by decide +kernel
theorem dl979 : decode code 979 = .ok (.iaload, 1) := by decide +kernel
theorem dl980 : decode code 980 = .ok (.invokevirtual 112, 3) := by decide +kernel
theorem dl983 : decode code 983 = .ok (.if_icmp .eq 792, 3) := by decide +kernel
theorem dl986 : decode code 986 = .ok (.iconst 0, 1) := by decide +kernel
theorem dl987 : decode code 987 = .ok (.ireturn, 1) := by decide +kernel
theorem dl988 : decode code 988 = .ok (.aload_n 1, 1) := by decide +kernel
theorem dl989 : decode code 989 = .ok (.invokevirtual 113, 3) := by decide +kernel
theorem dl992 : decode code 992 = .ok (.aload_n 2, 1) := by decide +kernel
theorem dl993 : decode code 993 = .ok (.invokevirtual 116, 3) := by decide +kernel
theorem dl996 : decode code 996 = .ok (.if_icmp .eq 779, 3) := by decide +kernel
